/** The boundary sentences of promises 14 to 18, one by one; each stands above its test. */
public final class VariantEdgesTest {

    private static final int NONE = SheetTrees.NONE;

    public static void main(String[] args) {
        variantNoneWhenThereAre10();
        variantBelowNone();
        variantOfNoSuchVariant();
        valueFalseWhenItTellsThatAlready();
        valueOfOneBitMore();
        valueFalseWhen40AreTold();
        valueOfNoSuchVariantPageOrPart();
        fitFalseWhenItTellsThatAlready();
        fitFalseWhen40AreTold();
        fitOfNoSuchVariantPageOrPart();
        heardInNone();
        heardWithoutAny();
        heardOfNoSuchVariantPageOrPart();
        Check.end();
    }

    // Promise 14: "NONE, when there are 10."
    private static void variantNoneWhenThereAre10() {
        SheetTrees x = new SheetTrees();
        for (int v = 0; v < 10; v++) {
            Check.same("variant(NONE)", x.variant(NONE), v);
        }
        Check.none("the 11th", x.variant(NONE));
        Refusals.in("ten variants", Scenes::fullOfVariants)
                .none("below none", y -> y.variant(NONE))
                .none("below the first", y -> y.variant(0))
                .none("below the last", y -> y.variant(9))
                .changeNothing();
        Check.yes("undo()", x.undo());
        Check.same("the 10th again", x.variant(8), 9);
    }

    // Promise 14: "A new variant below another one, or NONE"
    private static void variantBelowNone() {
        SheetTrees x = Scenes.fullOfVariants();
        Check.same("ten below one another", x.valueOf(9, 0, 1), Long.MIN_VALUE);
        Check.yes("undo() of the 10th", x.undo());
        Check.same("below none", x.variant(NONE), 9);
        Check.same("hears of no other", x.valueOf(9, 0, 1), 0);
        Check.yes("undo()", x.undo());
        Check.same("below the first", x.variant(0), 9);
        Check.same("hears of that", x.valueOf(9, 0, 1), Long.MIN_VALUE);
    }

    // Promise 14: "IndexOutOfBoundsException, when there is no such variant."
    private static void variantOfNoSuchVariant() {
        variantsAreRefused("no variants", SheetTrees::new, 0);
        variantsAreRefused("two variants", Scenes::workshop, 2);
        variantsAreRefused("ten variants", Scenes::fullOfVariants, 10);
    }

    private static void variantsAreRefused(String where, Scenes.Making scene, int variants) {
        Refusals r = Refusals.in(where, scene);
        for (int n : Scenes.outside(variants)) {
            if (n != NONE) {
                r.noIndex("variant(" + n + ")", x -> x.variant(n));
            }
        }
        r.changeNothing();
    }

    // Promise 15: "false, when it tells that already"
    private static void valueFalseWhenItTellsThatAlready() {
        Refusals.in("two values told", Scenes::workshop)
                .no("value(0, 0, 1, MIN)", x -> x.value(0, 0, 1, Long.MIN_VALUE))
                .no("value(1, 2, 1, 5)", x -> x.value(1, 2, 1, 5))
                .changeNothing();
        SheetTrees x = Scenes.workshop();
        Check.yes("what the variant above tells is not its own", x.value(1, 0, 1, Long.MIN_VALUE));
        Check.yes("what it tells at the page before is not told here", x.value(1, 3, 1, 5));
        Check.yes("what is so in the end is not told", x.value(0, 0, 0, 0));
        Check.no("but now", x.value(0, 0, 0, 0));
        Check.yes("another part", x.value(1, 2, 2, 5));
        Check.yes("another page of the same sheet", x.value(1, 5, 1, 5));
        Check.yes("undo()", x.undo());
        Check.yes("behind undo() it is not told", x.value(1, 5, 1, 5));
    }

    // Promise 15: "long v"
    private static void valueOfOneBitMore() {
        SheetTrees x = Scenes.workshop();
        long[] values = {0, 1L << 32, 1L << 63, (1L << 63) + 1, Long.MAX_VALUE, -1, 0xFFFFFFFFL, 1, (1L << 32) + 1, NONE};
        for (long v : values) {
            Check.yes("value(0, 0, 0, " + v + ")", x.value(0, 0, 0, v));
            Check.no("again", x.value(0, 0, 0, v));
            Check.same("valueOf(1, 12, 0)", x.valueOf(1, 12, 0), v);
        }
        for (int n = values.length - 2; n >= 0; n--) {
            Check.yes("undo()", x.undo());
            Check.same("valueOf(0, 0, 0)", x.valueOf(0, 0, 0), values[n]);
        }
    }

    // Promise 15: "or 40 are told"; Terms: "At most 40 are told (not counting what is told anew)."
    private static void valueFalseWhen40AreTold() {
        Refusals.in("40 told", Scenes::fullOfTellings)
                .no("another page", x -> x.value(0, 5, 0, 1))
                .no("another part", x -> x.value(0, 0, 2, 1))
                .no("what is so in the end", x -> x.value(0, 12, 0, 0))
                .no("a value where a fit is told", x -> x.value(0, 1, 2, 0))
                .no("what it tells already", x -> x.value(1, 12, 0, 12))
                .changeNothing();
        SheetTrees x = Scenes.fullOfTellings();
        for (int n = 0; n < 45; n++) {
            Check.yes("told anew", x.value(1, 12, 0, 1000 + n));
        }
        Check.same("valueOf(1, 12, 0)", x.valueOf(1, 12, 0), 1044);
        Check.no("still 40", x.value(0, 5, 0, 1));
        x.remove(0);
        x.remove(4);
        Check.same("pages()", x.pages(), 1);
        Check.no("also where pages are gone", x.value(0, 0, 2, 1));
        SheetTrees y = Scenes.fullOfTellings();
        Check.yes("undo() of the 40th", y.undo());
        Check.yes("the 40th", y.value(0, 5, 0, 1));
        Check.no("the 41st", y.value(0, 6, 0, 1));
    }

    // Promise 15: "IndexOutOfBoundsException, when there is no such variant, page, or part."
    private static void valueOfNoSuchVariantPageOrPart() {
        valuesAreRefused("two variants, 13 pages, three parts", Scenes::workshop);
        valuesAreRefused("40 told", Scenes::fullOfTellings);
        Refusals.in("300 pages", Scenes::fullOfPages)
                .noIndex("value(0, 300, 0, 1)", x -> x.value(0, 300, 0, 1))
                .changeNothing();
        Refusals.in("ten variants", Scenes::fullOfVariants)
                .noIndex("value(10, 0, 0, 1)", x -> x.value(10, 0, 0, 1))
                .changeNothing();
    }

    private static void valuesAreRefused(String where, Scenes.Making scene) {
        Refusals r = Refusals.in(where, scene);
        for (int n : Scenes.outside(2)) {
            r.noIndex("value(" + n + ", 0, 0, 1)", x -> x.value(n, 0, 0, 1));
        }
        for (int n : Scenes.outside(13)) {
            r.noIndex("value(0, " + n + ", 0, 1)", x -> x.value(0, n, 0, 1));
        }
        for (int n : Scenes.outside(3)) {
            r.noIndex("value(0, 0, " + n + ", 1)", x -> x.value(0, 0, n, 1));
        }
        r.changeNothing();
    }

    // Promise 16: "likewise", false when it tells that already
    private static void fitFalseWhenItTellsThatAlready() {
        Refusals.in("one fit told", Scenes::workshop)
                .no("fit(0, 1, 2, false)", x -> x.fit(0, 1, 2, false))
                .changeNothing();
        SheetTrees x = Scenes.workshop();
        Check.yes("what the variant above tells is not its own", x.fit(1, 1, 2, false));
        Check.yes("what it tells at the page before is not told here", x.fit(0, 2, 2, false));
        Check.yes("what is so in the end is not told", x.fit(0, 0, 0, true));
        Check.no("but now", x.fit(0, 0, 0, true));
        Check.yes("told anew", x.fit(0, 0, 0, false));
        Check.no("fitted(1, 12, 0)", x.fitted(1, 12, 0));
        Check.yes("and back", x.fit(0, 0, 0, true));
        Check.yes("fitted(1, 12, 0)", x.fitted(1, 12, 0));
        Check.yes("undo()", x.undo());
        Check.no("fitted(1, 12, 0)", x.fitted(1, 12, 0));
    }

    // Promise 16: "likewise", false when 40 are told
    private static void fitFalseWhen40AreTold() {
        Refusals.in("40 told", Scenes::fullOfTellings)
                .no("another page", x -> x.fit(0, 6, 0, true))
                .no("another part", x -> x.fit(0, 0, 2, false))
                .no("a fit where a value is told", x -> x.fit(0, 0, 1, true))
                .no("what it tells already", x -> x.fit(1, 0, 0, true))
                .changeNothing();
        SheetTrees x = Scenes.fullOfTellings();
        Check.yes("told anew", x.fit(1, 0, 0, false));
        Check.yes("told anew", x.fit(0, 1, 2, true));
        Check.no("still 40", x.fit(0, 6, 0, true));
        x.undo();
        x.undo();
        Check.yes("undo() of the 40th", x.undo());
        Check.yes("the 40th", x.fit(0, 6, 0, true));
        Check.no("the 41st", x.fit(0, 7, 0, true));
    }

    // Promise 16: "likewise", IndexOutOfBoundsException
    private static void fitOfNoSuchVariantPageOrPart() {
        fitsAreRefused("two variants, 13 pages, three parts", Scenes::workshop);
        fitsAreRefused("40 told", Scenes::fullOfTellings);
    }

    private static void fitsAreRefused(String where, Scenes.Making scene) {
        Refusals r = Refusals.in(where, scene);
        for (int n : Scenes.outside(2)) {
            r.noIndex("fit(" + n + ", 0, 0, true)", x -> x.fit(n, 0, 0, true));
        }
        for (int n : Scenes.outside(13)) {
            r.noIndex("fit(0, " + n + ", 0, false)", x -> x.fit(0, n, 0, false));
        }
        for (int n : Scenes.outside(3)) {
            r.noIndex("fit(0, 0, " + n + ", false)", x -> x.fit(0, 0, n, false));
        }
        r.changeNothing();
    }

    // Promise 17: "in a variant, or (NONE) in none"; Promise 18 likewise
    private static void heardInNone() {
        SheetTrees x = Scenes.fullOfTellings();
        for (int page = 0; page < 13; page++) {
            for (int part = 0; part < 3; part++) {
                Check.same("valueOf(NONE, " + page + ", " + part + ")", x.valueOf(NONE, page, part), 0);
                Check.yes("fitted(NONE, " + page + ", " + part + ")", x.fitted(NONE, page, part));
            }
        }
    }

    // Terms: "in the end: value 0, fitted."
    private static void heardWithoutAny() {
        SheetTrees x = Scenes.workshop();
        Check.same("another part", x.valueOf(1, 2, 0), 0);
        Check.yes("another part", x.fitted(1, 2, 0));
        Check.yes("a page beside that", x.fitted(1, 7, 2));
        Check.yes("the page before that", x.fitted(1, 0, 2));
        Check.no("that page", x.fitted(1, 1, 2));
        Check.no("the last page behind it", x.fitted(1, 6, 2));
        SheetTrees y = new SheetTrees();
        y.part(0, 1);
        y.variant(NONE);
        Check.same("nothing told", y.valueOf(0, 0, 0), 0);
        Check.yes("nothing told", y.fitted(0, 0, 0));
    }

    // Promises 17 and 18: "IndexOutOfBoundsException likewise."
    private static void heardOfNoSuchVariantPageOrPart() {
        Refusals r = Refusals.in("two variants, 13 pages, three parts", Scenes::workshop);
        for (int n : Scenes.outside(2)) {
            if (n != NONE) {
                r.noIndex("valueOf(" + n + ", 0, 0)", x -> x.valueOf(n, 0, 0));
                r.noIndex("fitted(" + n + ", 0, 0)", x -> x.fitted(n, 0, 0));
            }
        }
        for (int n : Scenes.outside(13)) {
            r.noIndex("valueOf(0, " + n + ", 0)", x -> x.valueOf(0, n, 0));
            r.noIndex("fitted(0, " + n + ", 0)", x -> x.fitted(0, n, 0));
            r.noIndex("valueOf(NONE, " + n + ", 0)", x -> x.valueOf(NONE, n, 0));
            r.noIndex("fitted(NONE, " + n + ", 0)", x -> x.fitted(NONE, n, 0));
        }
        for (int n : Scenes.outside(3)) {
            r.noIndex("valueOf(0, 0, " + n + ")", x -> x.valueOf(0, 0, n));
            r.noIndex("fitted(0, 0, " + n + ")", x -> x.fitted(0, 0, n));
            r.noIndex("valueOf(NONE, 0, " + n + ")", x -> x.valueOf(NONE, 0, n));
            r.noIndex("fitted(NONE, 0, " + n + ")", x -> x.fitted(NONE, 0, n));
        }
        r.changeNothing();
        Refusals.in("300 pages", Scenes::fullOfPages)
                .noIndex("valueOf(0, 300, 0)", x -> x.valueOf(0, 300, 0))
                .noIndex("fitted(0, 300, 0)", x -> x.fitted(0, 300, 0))
                .changeNothing();
        Refusals.in("ten variants", Scenes::fullOfVariants)
                .noIndex("valueOf(10, 0, 0)", x -> x.valueOf(10, 0, 0))
                .noIndex("fitted(10, 0, 0)", x -> x.fitted(10, 0, 0))
                .changeNothing();
    }
}
