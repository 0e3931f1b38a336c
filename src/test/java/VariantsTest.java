/** Promises 14 to 18: variants, and what they tell. */
public final class VariantsTest {

    private static final int NONE = SheetTrees.NONE;

    public static void main(String[] args) {
        variantsAndTheirLimit();
        wrongArguments();
        nearestTelling();
        variantsAbove();
        valuesOfAllSizes();
        fitting();
        toldAnew();
        tellingsAndTheirLimit();
        pathsOutliveThePages();
        pathsOfSheetsPlacedManyTimes();
        Check.end();
    }

    private static void variantsAndTheirLimit() {
        SheetTrees x = new SheetTrees();
        Check.noIndex("variant(0) at first", () -> x.variant(0));
        Check.noIndex("variant(-2)", () -> x.variant(-2));
        for (int v = 0; v < 10; v++) {
            Check.same("variant", x.variant(v - 1), v);
        }
        Check.none("the 11th", x.variant(-1));
        Check.none("the 11th", x.variant(9));
        Check.noIndex("a wrong one comes before the limit", () -> x.variant(10));
        x.part(0, 1);
        x.value(0, 0, 0, 3);
        Check.same("through ten variants", x.valueOf(9, 0, 0), 3);
        x.undo();
        x.undo();
        Check.yes("undo() of the 10th", x.undo());
        Check.noIndex("it is gone", () -> x.variant(9));
        Check.same("the 10th again", x.variant(NONE), 9);
    }

    private static void wrongArguments() {
        SheetTrees x = new SheetTrees();
        x.variant(NONE);
        x.part(0, 1);
        Check.noIndex("value, variant 1", () -> x.value(1, 0, 0, 1));
        Check.noIndex("value, variant NONE", () -> x.value(NONE, 0, 0, 1));
        Check.noIndex("value, page 1", () -> x.value(0, 1, 0, 1));
        Check.noIndex("value, page -1", () -> x.value(0, -1, 0, 1));
        Check.noIndex("value, part 1", () -> x.value(0, 0, 1, 1));
        Check.noIndex("value, part -1", () -> x.value(0, 0, -1, 1));
        Check.noIndex("fit, variant 1", () -> x.fit(1, 0, 0, true));
        Check.noIndex("fit, variant NONE", () -> x.fit(NONE, 0, 0, true));
        Check.noIndex("fit, page 1", () -> x.fit(0, 1, 0, true));
        Check.noIndex("fit, part 1", () -> x.fit(0, 0, 1, true));
        Check.noIndex("valueOf, variant 1", () -> x.valueOf(1, 0, 0));
        Check.noIndex("valueOf, variant -2", () -> x.valueOf(-2, 0, 0));
        Check.noIndex("valueOf, page 1", () -> x.valueOf(0, 1, 0));
        Check.noIndex("valueOf, page -1", () -> x.valueOf(NONE, -1, 0));
        Check.noIndex("valueOf, part 1", () -> x.valueOf(NONE, 0, 1));
        Check.noIndex("fitted, variant 1", () -> x.fitted(1, 0, 0));
        Check.noIndex("fitted, variant -2", () -> x.fitted(-2, 0, 0));
        Check.noIndex("fitted, page 1", () -> x.fitted(0, 1, 0));
        Check.noIndex("fitted, part 1", () -> x.fitted(NONE, 0, 1));
        Check.same("value without any", x.valueOf(0, 0, 0), 0);
        Check.same("value in none", x.valueOf(NONE, 0, 0), 0);
        Check.yes("fitted without any", x.fitted(0, 0, 0));
        Check.yes("fitted in none", x.fitted(NONE, 0, 0));
    }

    /** Pages: 0 root, 1 sheet 1, 2 sheet 2, 3 sheet 1, 4 sheet 2. */
    private static SheetTrees twoBranches() {
        SheetTrees x = new SheetTrees();
        x.sheet();
        x.sheet();
        x.place(0, 1);
        x.place(0, 1);
        x.place(1, 2);
        x.part(0, 1);
        x.part(0, 1);
        return x;
    }

    private static void valuesAre(SheetTrees x, int variant, int part, long... due) {
        for (int page = 0; page < due.length; page++) {
            Check.same("valueOf(" + variant + ", " + page + ", " + part + ")", x.valueOf(variant, page, part), due[page]);
        }
    }

    private static void nearestTelling() {
        SheetTrees x = twoBranches();
        x.variant(NONE);
        x.value(0, 3, 0, 7);
        valuesAre(x, 0, 0, 0, 0, 0, 7, 7);
        x.value(0, 0, 0, 5);
        valuesAre(x, 0, 0, 5, 5, 5, 7, 7);
        x.value(0, 2, 0, 9);
        valuesAre(x, 0, 0, 5, 5, 9, 7, 7);
        Check.yes("0 is told, too", x.value(0, 4, 0, 0));
        valuesAre(x, 0, 0, 5, 5, 9, 7, 0);
        valuesAre(x, 0, 1, 0, 0, 0, 0, 0);
        valuesAre(x, NONE, 0, 0, 0, 0, 0, 0);
        Check.yes("values fit nothing", x.fitted(0, 4, 0));
    }

    private static void variantsAbove() {
        SheetTrees x = twoBranches();
        x.variant(NONE);
        x.variant(0);
        x.variant(NONE);
        x.variant(1);
        x.value(0, 2, 0, 20);
        x.value(0, 1, 0, 10);
        x.value(2, 0, 0, 99);
        valuesAre(x, 1, 0, 0, 10, 20, 0, 0);
        x.value(1, 1, 0, 11);
        valuesAre(x, 0, 0, 0, 10, 20, 0, 0);
        valuesAre(x, 1, 0, 0, 11, 11, 0, 0);
        valuesAre(x, 3, 0, 0, 11, 11, 0, 0);
        x.value(3, 0, 0, 33);
        valuesAre(x, 3, 0, 33, 33, 33, 33, 33);
        valuesAre(x, 2, 0, 99, 99, 99, 99, 99);
    }

    private static void valuesOfAllSizes() {
        SheetTrees x = twoBranches();
        x.variant(NONE);
        long[] values = {Long.MIN_VALUE, Long.MAX_VALUE, -1, 1L << 32, 0, 0xFFFFFFFFL, 1};
        for (long v : values) {
            Check.yes("value", x.value(0, 1, 1, v));
            Check.same("valueOf", x.valueOf(0, 1, 1), v);
            Check.no("value again", x.value(0, 1, 1, v));
        }
        for (int i = values.length - 2; i >= 0; i--) {
            Check.yes("undo()", x.undo());
            Check.same("valueOf behind undo()", x.valueOf(0, 1, 1), values[i]);
        }
    }

    private static void fitting() {
        SheetTrees x = twoBranches();
        x.variant(NONE);
        x.variant(0);
        Check.yes("what holds anyway can be told", x.fit(0, 0, 0, true));
        Check.no("told already", x.fit(0, 0, 0, true));
        Check.yes("fit(0, 1, 0, false)", x.fit(0, 1, 0, false));
        Check.no("told already", x.fit(0, 1, 0, false));
        Check.yes("fit(1, 2, 0, true)", x.fit(1, 2, 0, true));
        Check.yes("fitted(1, 0, 0)", x.fitted(1, 0, 0));
        Check.no("fitted(1, 1, 0)", x.fitted(1, 1, 0));
        Check.yes("fitted(1, 2, 0)", x.fitted(1, 2, 0));
        Check.no("fitted(0, 2, 0)", x.fitted(0, 2, 0));
        Check.yes("fitted(0, 4, 0)", x.fitted(0, 4, 0));
        Check.yes("fitted(0, 2, 1)", x.fitted(0, 2, 1));
        Check.yes("fitted(NONE, 2, 0)", x.fitted(NONE, 2, 0));
        Check.same("fits have no value", x.valueOf(0, 0, 0), 0);
        Check.yes("told anew", x.fit(0, 1, 0, true));
        Check.yes("fitted(0, 2, 0)", x.fitted(0, 2, 0));
        Check.yes("undo()", x.undo());
        Check.no("fitted(0, 2, 0)", x.fitted(0, 2, 0));
    }

    private static void toldAnew() {
        SheetTrees x = twoBranches();
        x.variant(NONE);
        Check.yes("value 0 can be told", x.value(0, 0, 0, 0));
        Check.no("and is told already then", x.value(0, 0, 0, 0));
        Check.yes("value 6", x.value(0, 0, 0, 6));
        Check.no("value 6 again", x.value(0, 0, 0, 6));
        Check.yes("value 0", x.value(0, 0, 0, 0));
        Check.yes("at another page", x.value(0, 1, 0, 0));
        Check.yes("undo()", x.undo());
        Check.yes("undo()", x.undo());
        Check.same("valueOf", x.valueOf(0, 0, 0), 6);
    }

    private static void tellingsAndTheirLimit() {
        SheetTrees x = twoBranches();
        x.variant(NONE);
        x.variant(0);
        for (int page = 0; page < 5; page++) {
            for (int part = 0; part < 2; part++) {
                for (int variant = 0; variant < 2; variant++) {
                    Check.yes("value", x.value(variant, page, part, 1));
                    Check.yes("fit", x.fit(variant, page, part, false));
                }
            }
        }
        x.variant(1);
        Check.no("the 41st", x.value(2, 0, 0, 1));
        Check.no("the 41st", x.fit(2, 0, 0, true));
        Check.noIndex("a wrong page comes before the limit", () -> x.value(2, 5, 0, 1));
        Check.yes("one of the 40 told anew", x.value(1, 4, 1, 2));
        Check.yes("one of the 40 told anew", x.fit(1, 4, 1, true));
        Check.no("told already", x.fit(1, 4, 1, true));
        Check.same("valueOf(2, 4, 1)", x.valueOf(2, 4, 1), 2);
        x.remove(0);
        Check.no("what is told of pages that are gone counts", x.value(2, 0, 0, 1));
        for (int i = 0; i < 5; i++) {
            Check.yes("undo()", x.undo());
        }
        x.variant(1);
        Check.yes("the 40th", x.value(2, 0, 0, 1));
        Check.no("the 41st", x.fit(1, 4, 1, false));
    }

    private static void pathsOutliveThePages() {
        SheetTrees x = twoBranches();
        x.variant(NONE);
        x.value(0, 1, 0, 10);
        x.value(0, 2, 0, 20);
        x.value(0, 3, 0, 30);
        valuesAre(x, 0, 0, 0, 10, 20, 30, 30);
        x.move(0, 0);
        valuesAre(x, 0, 0, 0, 30, 30, 10, 20);
        x.remove(1);
        valuesAre(x, 0, 0, 0, 10, 20);
        int third = x.sheet();
        x.place(0, third);
        x.move(0, third);
        Check.same("pages", x.pages(), 4);
        valuesAre(x, 0, 0, 0, 0, 0, 0);
        Check.yes("told at the new path", x.value(0, 2, 0, 40));
        valuesAre(x, 0, 0, 0, 0, 40, 40);
        x.move(0, 0);
        Check.same("pages", x.pages(), 4);
        valuesAre(x, 0, 0, 0, 0, 10, 20);
        x.move(2, 0);
        valuesAre(x, 0, 0, 0, 0, 10, 0);
        x.move(2, 1);
        valuesAre(x, 0, 0, 0, 0, 10, 20);
        x.remove(0);
        Check.same("place once more", x.place(0, 1), 4);
        valuesAre(x, 0, 0, 0, 0, 0, 0);
    }

    private static void pathsOfSheetsPlacedManyTimes() {
        SheetTrees x = twoBranches();
        x.variant(NONE);
        x.value(0, 4, 1, 44);
        valuesAre(x, 0, 1, 0, 0, 0, 0, 44);
        x.fit(0, 2, 1, false);
        Check.yes("fitted at page 4", x.fitted(0, 4, 1));
        Check.no("fitted at page 2", x.fitted(0, 2, 1));
        x.copy(1);
        x.place(0, 3);
        valuesAre(x, 0, 1, 0, 0, 0, 0, 44, 0, 0);
    }
}
