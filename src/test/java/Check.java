/** Compares answers with those that are due; a test ends with exit code 1 if one was wrong. */
final class Check {

    interface Call {
        void run();
    }

    private static int wrong;
    private static int done;

    private Check() {
    }

    static void same(String what, long got, long due) {
        done++;
        if (got != due) {
            wrong++;
            System.out.println(what + " answered " + got + ", due is " + due);
        }
    }

    static void text(String what, String got, String due) {
        done++;
        if (!got.equals(due)) {
            wrong++;
            System.out.println(what + " answered " + got + ", due is " + due);
        }
    }

    static void yes(String what, boolean got) {
        same(what, got ? 1 : 0, 1);
    }

    static void no(String what, boolean got) {
        same(what, got ? 1 : 0, 0);
    }

    static void none(String what, long got) {
        same(what, got, SheetTrees.NONE);
    }

    static void noIndex(String what, Call call) {
        thrown(what, call, IndexOutOfBoundsException.class);
    }

    static void noArgument(String what, Call call) {
        thrown(what, call, IllegalArgumentException.class);
    }

    /** The very class is due: the machine's ArrayIndexOutOfBoundsException is another one. */
    private static void thrown(String what, Call call, Class<?> due) {
        done++;
        Class<?> got = null;
        try {
            call.run();
        } catch (RuntimeException e) {
            got = e.getClass();
        }
        if (got != due) {
            wrong++;
            System.out.println(what + " threw " + got + ", due is " + due);
        }
    }

    static void end() {
        System.out.println(done + " checks, " + wrong + " wrong");
        if (wrong != 0 || done == 0) {
            System.exit(1);
        }
    }
}
