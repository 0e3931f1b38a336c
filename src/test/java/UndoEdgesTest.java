import java.util.List;

/** The boundary sentences of promise 19, one by one; each stands above its test. */
public final class UndoEdgesTest {

    public static void main(String[] args) {
        falseWhenThereIsNone();
        theLatest50();
        whatFellOutDoesNotComeBack();
        fiftyAndFiftyAgain();
        everyKindOfActCounts();
        refusedCallsAndQuestionsAreNoActs();
        undoIsNoAct();
        allIsAsItWasBefore();
        theNumbersThatComeNext();
        Check.end();
    }

    private static int undoAll(SheetTrees x) {
        int count = 0;
        while (count < 100 && x.undo()) {
            count++;
        }
        return count;
    }

    private static SheetTrees ports(int count) {
        SheetTrees x = Scenes.sheets(1);
        for (int n = 0; n < count; n++) {
            if (n % 33 == 0) {
                x.sheet();
            } else {
                x.port(n / 33 + 1, n % 33 - 1);
            }
        }
        return x;
    }

    // Promise 19: "false, when there is none that can be."
    private static void falseWhenThereIsNone() {
        Refusals.in("a new object", SheetTrees::new).no("undo()", SheetTrees::undo).changeNothing();
        Refusals.in("all undone", () -> undone(ports(3), 3)).no("undo()", SheetTrees::undo).changeNothing();
        Refusals.in("50 of 60 undone", () -> undone(ports(60), 50)).no("undo()", SheetTrees::undo).changeNothing();
    }

    private static SheetTrees undone(SheetTrees x, int count) {
        for (int n = 0; n < count; n++) {
            x.undo();
        }
        return x;
    }

    // Terms: "The latest 50 can be UNDONE, the latest first"
    private static void theLatest50() {
        int[] counts = {0, 1, 2, 48, 49, 50, 51, 52, 99, 100, 101, 150};
        for (int acts : counts) {
            Check.same("undone of " + acts + " acts", undoAll(ports(acts)), Math.min(acts, 50));
        }
        SheetTrees x = ports(51);
        Check.same("undone", undoAll(x), 50);
        Check.same("the first act is still done", x.sheet(), 2);
        SheetTrees y = ports(50);
        Check.same("undone", undoAll(y), 50);
        Check.same("the first act is undone, too", y.sheet(), 1);
    }

    // Terms: "The latest 50 can be UNDONE": older ones can't be, whatever has been undone since
    private static void whatFellOutDoesNotComeBack() {
        SheetTrees x = ports(60);
        undone(x, 10);
        Check.same("of the latest 50", undoAll(x), 40);
        SheetTrees y = ports(60);
        undone(y, 10);
        for (int n = 0; n < 5; n++) {
            Check.yes("five acts more", y.port(0, n));
        }
        Check.same("40 and 5", undoAll(y), 45);
    }

    private static void fiftyAndFiftyAgain() {
        SheetTrees x = ports(77);
        Check.same("undone", undoAll(x), 50);
        Check.same("pages()", x.pages(), 1);
        for (int n = 0; n < 32; n++) {
            Check.yes("port(0)", x.port(0, n));
        }
        for (int n = 0; n < 18; n++) {
            Check.yes("rule", x.rule((n + 1) % 2));
        }
        Check.same("undone", undoAll(x), 50);
        Check.yes("the names are not told", x.port(0, 31));
        Check.yes("undo()", x.undo());
        Check.no("undo()", x.undo());
    }

    // Terms: "ACTS are calls of sheet, place, remove, move, port, join, part, gate, copy, rule, variant, value and fit"
    private static void everyKindOfActCounts() {
        List<Outlook.Ask> acts = List.of(
                SheetTrees::sheet, x -> x.place(0, 4), x -> x.remove(3), x -> x.move(5, 3), x -> x.move(5, 2),
                x -> x.move(4, 0), x -> x.port(4, 4), x -> x.join(4, 5, 0), x -> x.join(0, 5, 31), x -> x.part(1, 1),
                x -> x.gate(0, 2, 1), x -> x.copy(1), x -> x.copy(4), x -> x.rule(1), x -> x.variant(1),
                x -> x.variant(-1), x -> x.value(1, 1, 0, 0), x -> x.value(0, 0, 1, 1), x -> x.fit(1, 0, 0, true),
                x -> x.fit(0, 1, 2, true));
        List<String> before = Outlook.of(UndoEdgesTest::quiet);
        for (int n = 0; n < acts.size(); n++) {
            Outlook.Ask act = acts.get(n);
            SheetTrees once = quiet();
            String answer = Outlook.answer(once, act);
            Check.yes("act " + n + " answered " + answer, isAct(answer));
            Check.same("undone behind act " + n, undoAll(once), 36);
            List<String> behind = Outlook.of(() -> {
                SheetTrees x = quiet();
                act.of(x);
                x.undo();
                return x;
            });
            for (int k = 0; k < before.size(); k++) {
                Check.text("behind act " + n + " and undo()", behind.get(k), before.get(k));
            }
        }
    }

    /** The workshop with nothing told, as it is behind any undo(); 35 acts. */
    private static SheetTrees quiet() {
        SheetTrees x = Scenes.workshop();
        x.sheet();
        x.undo();
        return x;
    }

    // Terms: "that answered true, or a number but NONE"
    private static void refusedCallsAndQuestionsAreNoActs() {
        SheetTrees x = Scenes.workshop();
        x.place(0, 0);
        x.place(4, 1);
        x.move(0, 1);
        x.port(0, 0);
        x.join(0, 5, 0);
        x.join(0, 9, 9);
        x.gate(0, 1, 7);
        x.rule(0);
        x.value(1, 2, 1, 5);
        x.fit(0, 1, 2, false);
        x.told(0);
        x.joined(0, 5);
        x.valueOf(0, 0, 0);
        x.fitted(0, 0, 0);
        x.pages();
        x.page(0, 0);
        x.units(0);
        x.where(0, 0, 0);
        x.name(0, 0);
        Check.yes("undo() of the move", x.undo());
        Check.same("joined(1, 7)", x.joined(1, 7), 31);
        Check.same("the others", undoAll(x), 34);
        SheetTrees full = Scenes.fullOfSheets();
        for (int n = 0; n < 60; n++) {
            full.sheet();
            full.copy(0);
        }
        Check.same("none of the 50 fell out", undoAll(full), 50);
        Check.same("five of 55 are left", full.sheet(), 5);
    }

    // Terms: "The latest 50 can be UNDONE, the latest first": undo() itself is none of them
    private static void undoIsNoAct() {
        SheetTrees x = new SheetTrees();
        x.port(0, 1);
        x.port(0, 2);
        Check.yes("undo() of the second", x.undo());
        Check.yes("undo() of the first, not of undo()", x.undo());
        Check.yes("port(0, 1)", x.port(0, 1));
        Check.yes("port(0, 2)", x.port(0, 2));
    }

    // Terms: "then all is as it was before"
    private static void allIsAsItWasBefore() {
        Scenes.Making[] scenes = {
            Scenes::fullOfPages, Scenes::fullOfGates, Scenes::fullOfTellings, Scenes::fullOfPlacements,
        };
        for (Scenes.Making scene : scenes) {
            List<String> before = Outlook.of(() -> undone(scene.make(), 20));
            List<String> behind = Outlook.of(() -> {
                SheetTrees x = undone(scene.make(), 20);
                return undone(x, actsDone(x));
            });
            for (int k = 0; k < before.size(); k++) {
                Check.text("behind some acts and as many undo()", behind.get(k), before.get(k));
            }
        }
    }

    private static int actsDone(SheetTrees x) {
        List<Outlook.Ask> calls = List.of(
                y -> y.copy(1), y -> y.move(0, 0), y -> y.move(0, 3), y -> y.remove(0), y -> y.rule(1),
                y -> y.part(2, 2), y -> y.port(3, 3), y -> y.value(0, 0, 0, 123));
        int done = 0;
        for (Outlook.Ask call : calls) {
            done += isAct(Outlook.answer(x, call)) ? 1 : 0;
        }
        return done;
    }

    private static boolean isAct(String answer) {
        return !answer.matches("-1|false|.*Exception");
    }

    // Terms: "(also the numbers that come next)"
    private static void theNumbersThatComeNext() {
        SheetTrees x = Scenes.workshop();
        Check.same("copy(1)", x.copy(1), 5);
        Check.same("place(0, 5)", x.place(0, 5), 9);
        Check.same("part(0, 1)", x.part(0, 1), 5);
        Check.same("variant(0)", x.variant(0), 2);
        Check.same("sheet()", x.sheet(), 6);
        undone(x, 5);
        Check.same("sheet()", x.sheet(), 5);
        Check.same("place(0, 5)", x.place(0, 5), 7);
        Check.same("part(0, 1)", x.part(0, 1), 3);
        Check.same("variant(0)", x.variant(0), 2);
        Check.yes("remove(7)", x.remove(7));
        Check.yes("undo() of remove", x.undo());
        Check.yes("the placement is there", x.move(7, 0));
        SheetTrees y = Scenes.fullOfPlacements();
        Check.same("all that can be", undoAll(y), 50);
        Check.same("one of the 40 left: seven were placed at first", y.place(0, 4), 10);
    }
}
