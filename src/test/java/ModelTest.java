import java.lang.reflect.InvocationTargetException;
import java.lang.reflect.Method;
import java.util.Arrays;
import java.util.Map;
import java.util.TreeMap;

/** Long runs of mixed calls: every answer is the model's, and every exception is of the very same class. */
public final class ModelTest {

    private static final int RUNS = 1500;
    private static final int CALLS = 512;

    /** Each call with what its arguments are: s sheet, p placement, n name, k part, g gate, v variant, w variant or NONE. */
    private static final String[] FORMS = {
        "sheet", "place s s", "remove p", "move p s", "told few", "port s n", "join p n n", "joined p n",
        "part letter gates", "gate s k g", "copy s", "rule two", "variant w", "value v page k long", "fit v page k bool",
        "valueOf w page k", "fitted w page k", "undo", "pages", "page page four", "units k", "where k unit g",
        "name k unit",
    };

    /** How often each of these comes in a run, by the run's bent. */
    private static final int[][] BENTS = {
        {4, 8, 3, 6, 1, 4, 6, 1, 4, 6, 2, 1, 2, 4, 3, 2, 2, 6, 1, 2, 1, 2, 2},
        {3, 9, 1, 4, 1, 0, 0, 0, 3, 9, 3, 2, 0, 0, 0, 0, 0, 3, 1, 2, 4, 9, 18},
        {2, 5, 1, 6, 1, 0, 0, 0, 2, 0, 2, 0, 2, 9, 7, 18, 12, 4, 1, 2, 0, 0, 0},
        {3, 6, 1, 9, 9, 9, 18, 5, 0, 0, 3, 0, 0, 0, 0, 0, 0, 4, 1, 2, 0, 0, 0},
        {6, 9, 9, 4, 1, 2, 2, 1, 5, 9, 5, 2, 4, 2, 2, 1, 1, 1, 1, 1, 1, 1, 1},
        {3, 5, 2, 4, 1, 2, 2, 1, 3, 6, 9, 2, 2, 2, 2, 1, 1, 30, 1, 1, 1, 1, 1},
        {1, 9, 1, 3, 1, 0, 0, 0, 1, 2, 1, 1, 0, 0, 0, 0, 0, 1, 2, 4, 1, 2, 2},
    };

    private static final int[] ODD = {-1, -2, Integer.MIN_VALUE, Integer.MAX_VALUE, 1 << 26, 1 << 28, 64, 300};

    private static final int TOLD = 4;

    private static long seed;

    private ModelTest() {
    }

    public static void main(String[] args) {
        int runs = args.length > 0 ? Integer.parseInt(args[0]) : RUNS;
        Map<String, Method> real = methods(SheetTrees.class);
        Map<String, Method> plain = methods(Model.class);
        TreeMap<String, Integer> seen = new TreeMap<>();
        for (int run = 0; run < runs; run++) {
            seed = run * 7919L + 17;
            oneRun(run, real, plain, seen);
        }
        if (args.length > 1) {
            System.out.println(seen.toString().replace(", ", "\n"));
        }
        Check.end();
    }

    private static Map<String, Method> methods(Class<?> of) {
        Map<String, Method> found = new TreeMap<>();
        for (Method m : of.getDeclaredMethods()) {
            found.put(m.getName(), m);
        }
        return found;
    }

    private static void oneRun(int run, Map<String, Method> real, Map<String, Method> plain, Map<String, Integer> seen) {
        SheetTrees x = new SheetTrees();
        Model m = new Model();
        // With few names and few sheets in use, more of the calls have to do with one another.
        int names = run % 3 == 0 ? 32 : 3;
        int most = run % 4 == 0 ? 24 : 3 + run % 5;
        boolean moved = false;
        for (int n = 0; n < CALLS; n++) {
            // What a move lost is soon undone: it has to be asked for at once.
            String[] form = FORMS[moved && below(2) == 0 ? TOLD : pick(BENTS[run % BENTS.length])].split(" ");
            moved = form[0].equals("move");
            Object[] args = arguments(form, m, names, most);
            String got = answer(real.get(form[0]), x, args);
            String due = answer(plain.get(form[0]), m, args);
            String told = "run " + run + ", call " + n + ": " + form[0] + Arrays.toString(args);
            Check.yes(told + " answered " + got + ", due is " + due + ": the same", got.equals(due));
            seen.merge(form[0] + " " + sort(due), 1, Integer::sum);
        }
    }

    private static String sort(String due) {
        return due.matches("[0-9]+|-[0-9]{2,}") ? "number" : due;
    }

    private static String answer(Method method, Object target, Object[] args) {
        try {
            return String.valueOf(method.invoke(target, args));
        } catch (InvocationTargetException e) {
            return e.getCause().getClass().getName();
        } catch (IllegalAccessException e) {
            return "no access";
        }
    }

    /** One argument in some is odd: few enough for the states to grow. */
    private static Object[] arguments(String[] form, Model m, int names, int most) {
        int[] sizes = m.sizes();
        sizes[0] = Math.min(sizes[0], most);
        boolean odd = below(15) == 0;
        Object[] args = new Object[form.length - 1];
        int part = below(Math.max(1, sizes[2]));
        for (int i = 0; i < args.length; i++) {
            String kind = form[i + 1];
            if (kind.equals("bool")) {
                args[i] = below(2) == 0;
            } else if (kind.equals("long")) {
                args[i] = below(3) == 0 ? (long) ODD[below(ODD.length)] << below(33) : (long) below(3);
            } else if (odd && below(args.length) == 0) {
                args[i] = below(2) == 0 ? ODD[below(ODD.length)] : bound(kind, sizes, names, m, part);
            } else if (kind.equals("k")) {
                args[i] = part;
            } else {
                args[i] = usual(kind, sizes, names, m, part);
            }
        }
        return args;
    }

    private static int usual(String kind, int[] sizes, int names, Model m, int part) {
        switch (kind) {
            case "w":
                return below(5) == 0 ? SheetTrees.NONE : below(Math.max(1, sizes[3]));
            case "letter":
                return below(2) == 0 ? 1 : below(26);
            case "p":
                return Math.max(below(Math.max(1, sizes[1])), below(Math.max(1, sizes[1])));
            case "few":
                return below(4) / 2;
            case "gates":
                return 1 + below(8);
            default:
                return below(Math.max(1, bound(kind, sizes, names, m, part)));
        }
    }

    /** The first number that is too high, or would be if no more were in use. */
    private static int bound(String kind, int[] sizes, int names, Model m, int part) {
        switch (kind) {
            case "s":
                return sizes[0];
            case "p":
                return sizes[1];
            case "k":
                return sizes[2];
            case "v":
            case "w":
                return sizes[3];
            case "page":
                return sizes[4];
            case "n":
                return names;
            case "g":
                return 4;
            case "unit":
                return part < sizes[2] ? m.units(part) : 0;
            case "two":
                return 2;
            case "few":
            case "four":
                return 4;
            case "letter":
                return 26;
            default:
                return 9;
        }
    }

    private static int below(int bound) {
        seed = seed * 6364136223846793005L + 1442695040888963407L;
        return (int) ((seed >>> 33) % bound);
    }

    private static int pick(int[] weights) {
        int at = below(Arrays.stream(weights).sum());
        int kind = 0;
        while (at >= weights[kind]) {
            at -= weights[kind];
            kind++;
        }
        return kind;
    }
}
