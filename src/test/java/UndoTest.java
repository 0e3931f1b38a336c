/** Promise 19: acts undone step by step, and which calls are acts. */
public final class UndoTest {

    public static void main(String[] args) {
        eachActIsUndone();
        whatIsNoActIsNotUndone();
        fiftyActs();
        fiftyActsInTurns();
        Check.end();
    }

    private static void eachActIsUndone() {
        SheetTrees x = new SheetTrees();
        x.sheet();
        x.place(0, 1);
        x.part(1, 1);
        x.gate(1, 0, 0);
        x.port(0, 1);
        x.port(1, 2);
        x.join(0, 2, 1);
        x.rule(1);
        x.variant(-1);
        x.value(0, 1, 0, 5);
        x.fit(0, 1, 0, false);
        x.copy(1);
        x.move(0, 2);
        x.remove(0);
        Check.same("pages", x.pages(), 1);
        Check.yes("undo() of remove", x.undo());
        Check.none("joined", x.joined(0, 2));
        Check.yes("undo() of move", x.undo());
        Check.same("joined", x.joined(0, 2), 1);
        Check.same("pages", x.pages(), 2);
        Check.yes("undo() of copy", x.undo());
        Check.noIndex("the copied part", () -> x.units(1));
        Check.noIndex("the copied sheet", () -> x.copy(2));
        Check.no("fitted", x.fitted(0, 1, 0));
        Check.yes("undo() of fit", x.undo());
        Check.yes("fitted", x.fitted(0, 1, 0));
        Check.same("valueOf", x.valueOf(0, 1, 0), 5);
        Check.yes("undo() of value", x.undo());
        Check.same("valueOf", x.valueOf(0, 1, 0), 0);
        Check.yes("undo() of variant", x.undo());
        Check.noIndex("the variant", () -> x.fitted(0, 1, 0));
        Check.same("name", x.name(0, 0), 10101);
        Check.yes("undo() of rule", x.undo());
        Check.same("name", x.name(0, 0), 10001);
        Check.yes("undo() of join", x.undo());
        Check.none("joined", x.joined(0, 2));
        Check.yes("undo() of port", x.undo());
        Check.yes("undo() of port", x.undo());
        Check.same("units", x.units(0), 1);
        Check.yes("undo() of gate", x.undo());
        Check.same("units", x.units(0), 0);
        Check.yes("undo() of part", x.undo());
        Check.noIndex("the part", () -> x.units(0));
        Check.yes("undo() of place", x.undo());
        Check.same("pages", x.pages(), 1);
        Check.noIndex("the placement", () -> x.remove(0));
        Check.yes("undo() of sheet", x.undo());
        Check.noIndex("the sheet", () -> x.port(1, 0));
        Check.no("undo() of nothing", x.undo());
        Check.same("sheet()", x.sheet(), 1);
        Check.same("place()", x.place(0, 1), 0);
        Check.same("part()", x.part(1, 2), 0);
        Check.same("variant()", x.variant(-1), 0);
        Check.yes("port(1, 2)", x.port(1, 2));
        Check.yes("gate(0, 0, 0)", x.gate(0, 0, 0));
        Check.none("nothing joined is left", x.joined(0, 2));
        Check.same("no value is left", x.valueOf(0, 1, 0), 0);
    }

    private static void whatIsNoActIsNotUndone() {
        SheetTrees x = new SheetTrees();
        x.part(0, 1);
        x.variant(-1);
        x.value(0, 0, 0, 4);
        x.port(0, 0);
        x.gate(0, 0, 0);
        x.sheet();
        x.place(0, 1);
        Check.none("place", x.place(1, 0));
        Check.no("move", x.move(0, 1));
        Check.no("port", x.port(0, 0));
        Check.no("join", x.join(0, 0, 0));
        Check.no("gate", x.gate(1, 0, 0));
        Check.no("rule", x.rule(0));
        Check.no("value", x.value(0, 0, 0, 4));
        Check.noIndex("remove", () -> x.remove(1));
        Check.noArgument("part", () -> x.part(0, 0));
        x.pages();
        x.page(0, 0);
        x.told(0);
        x.units(0);
        x.where(0, 0, 0);
        x.name(0, 0);
        x.fitted(0, 0, 0);
        x.joined(0, 0);
        Check.same("pages", x.pages(), 2);
        Check.yes("undo() of place", x.undo());
        Check.same("pages", x.pages(), 1);
        Check.yes("undo() of sheet, for undo() is no act", x.undo());
        Check.noIndex("the sheet", () -> x.place(0, 1));
    }

    private static void fiftyActs() {
        SheetTrees x = new SheetTrees();
        x.sheet();
        for (int i = 0; i < 55; i++) {
            x.place(0, 1);
        }
        Check.same("pages", x.pages(), 56);
        for (int i = 0; i < 50; i++) {
            Check.yes("undo()", x.undo());
        }
        Check.no("the 51st undo()", x.undo());
        Check.same("pages", x.pages(), 6);
        Check.same("place", x.place(0, 1), 5);
        Check.yes("undo() of that", x.undo());
        Check.no("undo() of no more", x.undo());
        Check.same("pages", x.pages(), 6);
    }

    private static void fiftyActsInTurns() {
        SheetTrees x = new SheetTrees();
        for (int i = 0; i < 60; i++) {
            Check.yes("rule", x.rule((i + 1) % 2));
        }
        for (int i = 0; i < 30; i++) {
            Check.yes("undo()", x.undo());
        }
        for (int i = 0; i < 20; i++) {
            Check.yes("port", x.port(0, i));
        }
        for (int i = 0; i < 40; i++) {
            Check.yes("undo()", x.undo());
        }
        Check.no("20 of 50, and 20, are undone", x.undo());
        Check.no("rule 0 after ten that stay", x.rule(0));
    }
}
