import java.util.ArrayList;
import java.util.List;

/**
 * All that can be asked of an object, told as lines, so that two ways to make one can be compared. Each line asks a new
 * object: so calls that change it can be asked, too, and no object comes to its 512 calls.
 */
final class Outlook {

    interface Ask {
        Object of(SheetTrees x);
    }

    private final Scenes.Making making;
    private final List<String> lines = new ArrayList<>();
    private SheetTrees now;
    private StringBuilder line;

    private Outlook(Scenes.Making making) {
        this.making = making;
    }

    static List<String> of(Scenes.Making making) {
        Outlook o = new Outlook(making);
        o.askPages();
        o.askJoints();
        o.askUnits();
        o.askTellings();
        o.askTold();
        o.askNames();
        o.askGates();
        o.askNextNumbers();
        o.askUndo();
        return o.lines;
    }

    static String answer(SheetTrees x, Ask ask) {
        try {
            return String.valueOf(ask.of(x));
        } catch (RuntimeException e) {
            return e.getClass().getSimpleName();
        }
    }

    private void begin(String what) {
        now = making.make();
        line = new StringBuilder(what).append(':');
    }

    private void ask(Ask ask) {
        line.append(' ').append(answer(now, ask));
    }

    private void end() {
        lines.add(line.toString());
    }

    private void askPages() {
        int count = making.make().pages();
        for (int first = 0; first <= count; first += 50) {
            begin("pages() and page(" + first + " .., 0 .. 3)");
            ask(SheetTrees::pages);
            for (int page = first; page < first + 50 && page <= count; page++) {
                for (int what = 0; what < 4; what++) {
                    int p = page;
                    int w = what;
                    ask(x -> x.page(p, w));
                }
            }
            end();
        }
    }

    private void askJoints() {
        for (int placement = 0; placement < 61; placement++) {
            int p = placement;
            begin("joined(" + p + ", 0 .. 31)");
            for (int name = 0; name < 32; name++) {
                int n = name;
                ask(x -> x.joined(p, n));
            }
            end();
        }
    }

    private void askUnits() {
        for (int part = 0; part < 31; part++) {
            int p = part;
            begin("units(" + p + "), name and where of the first");
            ask(x -> x.units(p));
            for (int unit = 0; unit < 9; unit++) {
                int u = unit;
                ask(x -> x.name(p, u));
                for (int gate = 0; gate < 9; gate++) {
                    int g = gate;
                    ask(x -> x.where(p, u, g));
                }
            }
            end();
        }
    }

    private void askTellings() {
        for (int variant = -1; variant < 11; variant++) {
            int v = variant;
            begin("valueOf(" + v + ", ..) and fitted");
            for (int page = 0; page < 14; page++) {
                int at = page;
                for (int part = 0; part < 3; part++) {
                    int p = part;
                    ask(x -> x.valueOf(v, at, p));
                    ask(x -> x.fitted(v, at, p));
                }
            }
            end();
        }
    }

    private void askTold() {
        begin("told(-1 .. 32)");
        for (int k = -1; k < 33; k++) {
            int n = k;
            ask(x -> x.told(n));
        }
        end();
    }

    private void askNames() {
        for (int sheet = 0; sheet < 25; sheet++) {
            int s = sheet;
            begin("port(" + s + ", 0 .. 31)");
            for (int name = 0; name < 32; name++) {
                int n = name;
                ask(x -> x.port(s, n));
            }
            end();
        }
    }

    private void askGates() {
        for (int sheet = 0; sheet < 25; sheet++) {
            int s = sheet;
            begin("gate(" + s + ", .., ..)");
            for (int part = 0; part < 9; part++) {
                int p = part;
                for (int gate = 0; gate < 9; gate++) {
                    int g = gate;
                    ask(x -> x.gate(s, p, g));
                }
            }
            end();
        }
    }

    private void askNextNumbers() {
        Ask[] asks = {
            SheetTrees::sheet, x -> x.place(0, 1), x -> x.place(0, 0), x -> x.part(0, 1), x -> x.variant(-1),
            x -> x.rule(0), x -> x.rule(1), x -> x.value(0, 0, 0, 77), x -> x.fit(0, 0, 0, false),
        };
        for (int n = 0; n < asks.length; n++) {
            begin("what comes next " + n);
            ask(asks[n]);
            end();
        }
        for (int sheet = 0; sheet < 25; sheet++) {
            int s = sheet;
            begin("copy(" + s + ") and its page");
            ask(x -> x.copy(s));
            ask(SheetTrees::sheet);
            ask(x -> x.place(0, s));
            ask(x -> x.part(0, 1));
            end();
        }
    }

    private void askUndo() {
        begin("undo() to the end");
        for (int n = 0; n < 60; n++) {
            ask(SheetTrees::undo);
            ask(SheetTrees::pages);
        }
        end();
    }
}
