/** The boundary sentences of the document's section 'Terms' that no promise says again; each stands above its test. */
public final class TermsTest {

    private static final int NONE = SheetTrees.NONE;

    public static void main(String[] args) {
        placementsInOrder();
        sixtyPlacementsOnOneSheet();
        allSheetsInOneAnother();
        pageBehindPage();
        threeHundredPages();
        eachNameToOneAtMost();
        gatesInTheOrderInWhichTheyCame();
        gatesByPages();
        unitsByFirstPageThenPlace();
        namesByRule0();
        namesByRule1();
        namesThatReachTheNextLetter();
        mostUnitsOfALetter();
        tenVariantsBelowOneAnother();
        fromThePageUpBeforeTheVariantAbove();
        tellingsBelongToPaths();
        fortyTellingsAtTheDeepestPages();
        pathsOfPlacementsThatAreGone();
        theLastOf512Calls();
        Check.end();
    }

    private static void placementsAre(SheetTrees x, int... due) {
        Check.same("pages()", x.pages(), due.length + 1);
        for (int n = 0; n < due.length && n + 1 < x.pages(); n++) {
            Check.same("the placement of page " + (n + 1), x.page(n + 1, 1), due[n]);
        }
    }

    // "on each sheet they are in order, a new one last"
    private static void placementsInOrder() {
        SheetTrees x = Scenes.sheets(3);
        for (int p = 0; p < 4; p++) {
            x.place(0, 1 + p % 2);
        }
        placementsAre(x, 0, 1, 2, 3);
        x.remove(0);
        placementsAre(x, 1, 2, 3);
        x.remove(2);
        placementsAre(x, 1, 3);
        x.place(0, 1);
        placementsAre(x, 1, 3, 4);
        x.remove(4);
        placementsAre(x, 1, 3);
        x.undo();
        x.undo();
        x.undo();
        placementsAre(x, 1, 2, 3);
        x.undo();
        placementsAre(x, 0, 1, 2, 3);
        x.move(1, 0);
        x.move(0, 0);
        placementsAre(x, 2, 3, 1, 0);
        x.undo();
        placementsAre(x, 0, 2, 3, 1);
        x.undo();
        placementsAre(x, 0, 1, 2, 3);
    }

    // "PLACEMENTS, from 0, at most 60 in all"
    private static void sixtyPlacementsOnOneSheet() {
        SheetTrees x = Scenes.sheets(2);
        for (int p = 0; p < 60; p++) {
            Check.same("place(0, 1)", x.place(0, 1), p);
        }
        Check.same("page(60, 1)", x.page(60, 1), 59);
        Check.yes("the first goes behind the 60th", x.move(0, 0));
        Check.same("page(60, 1)", x.page(60, 1), 0);
        Check.same("page(59, 1)", x.page(59, 1), 59);
        Check.yes("the 60th goes", x.remove(59));
        Check.same("page(59, 1)", x.page(59, 1), 0);
        x.undo();
        x.undo();
        Check.same("page(1, 1)", x.page(1, 1), 0);
        Check.same("page(60, 1)", x.page(60, 1), 59);
    }

    // "SHEETS .. at most 24"; "or on one that lies in it"
    private static void allSheetsInOneAnother() {
        boolean[] orders = {false, true};
        for (boolean downwards : orders) {
            SheetTrees x = Scenes.sheets(24);
            for (int n = 0; n < 23; n++) {
                int s = downwards ? n : 22 - n;
                x.place(s, s + 1);
            }
            Check.same("pages()", x.pages(), 24);
            Check.same("23 placements lead to the last", x.page(23, 3), 23);
            for (int s = 0; s < 23; s++) {
                Check.none("place(23, " + s + ")", x.place(23, s));
            }
            x.part(0, 1);
            x.variant(NONE);
            x.value(0, 0, 0, 5);
            x.fit(0, 0, 0, false);
            Check.same("told at the root, heard at the last", x.valueOf(0, 23, 0), 5);
            Check.no("told at the root, heard at the last", x.fitted(0, 23, 0));
            Check.same("downwards a sheet may come again", x.place(0, 23), 23);
            Check.same("pages()", x.pages(), 25);
        }
    }

    // "behind each page stand, for each placement on its sheet, in order, the page of that and all behind it"
    private static void pageBehindPage() {
        SheetTrees x = Scenes.workshop();
        int[][] due = {
            {0, NONE, NONE, 0}, {1, 0, 0, 1}, {2, 2, 1, 2}, {4, 5, 2, 3}, {3, 3, 1, 2}, {2, 1, 4, 3}, {4, 5, 5, 4},
            {1, 4, 0, 1}, {2, 2, 7, 2}, {4, 5, 8, 3}, {3, 3, 7, 2}, {2, 1, 10, 3}, {4, 5, 11, 4},
        };
        Check.same("pages()", x.pages(), due.length);
        for (int page = 0; page < due.length; page++) {
            for (int what = 0; what < 4; what++) {
                Check.same("page(" + page + ", " + what + ")", x.page(page, what), due[page][what]);
            }
        }
    }

    // "There are never more than 300."
    private static void threeHundredPages() {
        SheetTrees x = Scenes.fullOfPages();
        for (int page = 1; page < 300; page++) {
            int branch = (page - 1) / 13;
            int leaf = (page - 1) % 13;
            Check.same("page(" + page + ", 1)", x.page(page, 1), leaf == 0 ? 12 + branch : leaf - 1);
        }
        Check.none("place(0, 2)", x.place(0, 2));
        Check.no("move(35, 0)", x.move(35, 0));
        Check.same("copy(0)", x.copy(0), 5);
        Check.same("pages()", x.pages(), 300);
        Check.yes("undo()", x.undo());
        Check.same("pages()", x.pages(), 300);
    }

    // "NAMES 0 .. 31"; "(each to one at most)"
    private static void eachNameToOneAtMost() {
        SheetTrees x = Scenes.sheets(2);
        x.place(0, 1);
        for (int n = 0; n < 32; n++) {
            x.port(0, n);
            x.port(1, n);
        }
        for (int n = 0; n < 32; n++) {
            Check.yes("join(0, " + n + ", 31 - " + n + ")", x.join(0, n, 31 - n));
        }
        for (int n = 0; n < 32; n++) {
            Check.yes("join(0, " + n + ", " + n + ")", x.join(0, n, n));
            Check.same("joined(0, " + n + ")", x.joined(0, n), n);
        }
    }

    // "a sheet has at most 20, in the order in which they came"
    private static void gatesInTheOrderInWhichTheyCame() {
        SheetTrees x = new SheetTrees();
        for (int p = 0; p < 20; p++) {
            x.part(4, 1);
        }
        for (int p = 19; p >= 0; p--) {
            x.gate(0, p, 0);
        }
        for (int p = 0; p < 20; p++) {
            Check.same("name(" + p + ", 0)", x.name(p, 0), 40020 - p);
        }
        x.undo();
        x.undo();
        x.gate(0, 0, 0);
        x.gate(0, 1, 0);
        Check.same("name(0, 0)", x.name(0, 0), 40019);
        Check.same("name(1, 0)", x.name(1, 0), 40020);
    }

    // "the j-th of these, by pages, belongs to UNIT j of its part (j from 0)"
    private static void gatesByPages() {
        SheetTrees x = Scenes.workshop();
        int[][] due = {{2, 1}, {5, 7}, {8, NONE}, {11, NONE}};
        for (int unit = 0; unit < 4; unit++) {
            Check.same("where(1, " + unit + ", 0)", x.where(1, unit, 0), due[unit][0]);
            Check.same("where(1, " + unit + ", 7)", x.where(1, unit, 7), due[unit][1]);
        }
        x.move(3, 0);
        int[] behind = {2, 5, 8, NONE};
        for (int unit = 0; unit < 3; unit++) {
            Check.same("where(1, " + unit + ", 0)", x.where(1, unit, 0), behind[unit]);
        }
        Check.same("where(1, 1, 7)", x.where(1, 1, 7), 4);
        Check.same("units(1)", x.units(1), 3);
    }

    // "Units are in order by the first page (then place on that sheet) of a gate of theirs."
    private static void unitsByFirstPageThenPlace() {
        SheetTrees x = Scenes.sheets(3);
        x.place(0, 1);
        x.place(0, 2);
        x.place(0, 1);
        x.part(6, 2);
        x.part(6, 2);
        x.part(6, 1);
        x.gate(2, 0, 0);
        x.gate(1, 1, 1);
        x.gate(1, 0, 1);
        x.gate(2, 1, 0);
        x.gate(1, 2, 0);
        // Sheet 1 has parts 1, 0, 2 on pages 1 and 3; unit 0 of part 0 comes first on page 1, not 2.
        int[][] due = {{60002, 60005}, {60001, 60004}, {60003, 60006}};
        for (int part = 0; part < 3; part++) {
            Check.same("name(" + part + ", 0)", x.name(part, 0), due[part][0]);
            Check.same("name(" + part + ", 1)", x.name(part, 1), due[part][1]);
        }
        x.move(0, 0);
        // Page 1 is of sheet 2 now, with parts 0, 1; pages 2 and 3 of sheet 1: part 2, then the units 1 of parts 1, 0.
        int[][] moved = {{60001, 60005}, {60002, 60004}, {60003, 60006}};
        for (int part = 0; part < 3; part++) {
            Check.same("name(" + part + ", 0)", x.name(part, 0), moved[part][0]);
            Check.same("name(" + part + ", 1)", x.name(part, 1), moved[part][1]);
        }
    }

    private static SheetTrees threeLetters() {
        SheetTrees x = Scenes.sheets(2);
        x.place(0, 1);
        x.place(0, 1);
        int[] letters = {0, 25, 0, 1};
        for (int n = 0; n < letters.length; n++) {
            x.part(letters[n], 1);
            x.gate(1, n, 0);
        }
        x.part(0, 1);
        x.gate(0, 4, 0);
        return x;
    }

    private static void namesAre(SheetTrees x, int[][] due) {
        for (int part = 0; part < due.length; part++) {
            Check.same("units(" + part + ")", x.units(part), due[part].length);
            for (int unit = 0; unit < due[part].length; unit++) {
                Check.same("name(" + part + ", " + unit + ")", x.name(part, unit), due[part][unit]);
            }
        }
    }

    // "with RULE 0 (at first) units of a letter are numbered 1, 2, .. in order"
    private static void namesByRule0() {
        int[][] due = {{2, 4}, {250001, 250002}, {3, 5}, {10001, 10002}, {1}};
        SheetTrees x = threeLetters();
        namesAre(x, due);
        x.rule(1);
        x.rule(0);
        namesAre(x, due);
    }

    // "with RULE 1 those whose first page is p have 100 p and 1, 2, .. of these, in order"
    private static void namesByRule1() {
        SheetTrees x = threeLetters();
        x.rule(1);
        namesAre(x, new int[][] {{101, 201}, {250101, 250201}, {102, 202}, {10101, 10201}, {1}});
        x.undo();
        x.part(0, 2);
        x.gate(0, 5, 1);
        x.gate(1, 5, 0);
        x.rule(1);
        // Unit 0 of part 5 comes first on the root, unit 1 on page 2.
        namesAre(x, new int[][] {{101, 201}, {250101, 250201}, {102, 202}, {10101, 10201}, {1}, {2, 203}});
    }

    // "A unit's name is its letter's number times 10,000 and a NUMBER", also where the number is beyond 10,000
    private static void namesThatReachTheNextLetter() {
        SheetTrees x = Scenes.fullOfPages();
        x.rule(1);
        Check.same("unit 90 of part 0, on page 99", x.name(0, 90), 9901);
        Check.same("its page", x.where(0, 90, 0), 99);
        Check.same("unit 91 of part 0, on page 100", x.name(0, 91), 10001);
        Check.same("unit 275 of part 0, on page 299", x.name(0, 275), 29901);
        Check.same("unit 22 of part 1, on page 287", x.name(1, 22), 10000 + 28701);
        x.rule(0);
        Check.same("unit 275 of part 0", x.name(0, 275), 276);
        Check.same("unit 22 of part 1", x.name(1, 22), 10023);
    }

    // "units of a letter are numbered 1, 2, .. in order", for as many as there can be
    private static void mostUnitsOfALetter() {
        SheetTrees x = Scenes.fullOfPages();
        for (int p = 2; p < 21; p++) {
            x.part(0, 1);
            x.gate(2, p, 0);
        }
        Check.no("a sheet has 20", x.gate(2, 1, 0));
        Check.same("the first", x.name(0, 0), 1);
        Check.same("the last", x.name(20, 275), 276 * 20);
        Check.same("the one before", x.name(19, 275), 276 * 20 - 1);
        Check.same("the last of the unit before", x.name(20, 274), 275 * 20);
        x.rule(1);
        Check.same("the last", x.name(20, 275), 29920);
        Check.same("the first of the page", x.name(0, 275), 29901);
    }

    // "VARIANTS, from 0, at most 10, each below an earlier one or none."
    private static void tenVariantsBelowOneAnother() {
        SheetTrees x = Scenes.fullOfVariants();
        Check.yes("variant 0 tells", x.value(0, 0, 0, 70));
        for (int v = 0; v < 10; v++) {
            Check.same("valueOf(" + v + ", 12, 0)", x.valueOf(v, 12, 0), 70);
        }
        Check.yes("variant 5 tells", x.value(5, 0, 0, 75));
        for (int v = 0; v < 10; v++) {
            Check.same("valueOf(" + v + ", 12, 0)", x.valueOf(v, 12, 0), v < 5 ? 70 : 75);
        }
        Check.yes("variant 9 tells", x.fit(9, 0, 0, false));
        Check.yes("fitted(8, 0, 0)", x.fitted(8, 0, 0));
        Check.no("fitted(9, 0, 0)", x.fitted(9, 0, 0));
    }

    // "what the variant tells at that page, or else at the page that this one's placement leads from, and so on to the
    // root; without any what the variant above it tells there, likewise"
    private static void fromThePageUpBeforeTheVariantAbove() {
        SheetTrees x = Scenes.workshop();
        x.value(0, 6, 0, 6);
        Check.same("the variant above tells it there", x.valueOf(1, 6, 0), 6);
        x.value(0, 0, 0, 3);
        Check.same("the page comes before the root", x.valueOf(1, 6, 0), 6);
        Check.same("the root, far up", x.valueOf(1, 12, 0), 3);
        x.value(1, 0, 0, 1);
        Check.same("its own root comes before the page of the one above", x.valueOf(1, 6, 0), 1);
        Check.same("which hears its own", x.valueOf(0, 6, 0), 6);
        x.value(1, 4, 0, 4);
        Check.same("the nearest page", x.valueOf(1, 5, 0), 4);
        Check.same("a page of the same sheet elsewhere", x.valueOf(1, 10, 0), 1);
        x.fit(0, 6, 0, false);
        Check.no("fits go their own way", x.fitted(1, 6, 0));
        x.fit(1, 1, 0, true);
        Check.yes("its own page comes before the one above", x.fitted(1, 6, 0));
    }

    // "that belongs to the page's PATH, whatever pages there are later"
    private static void tellingsBelongToPaths() {
        SheetTrees x = Scenes.workshop();
        x.value(1, 12, 2, 12);
        x.value(1, 6, 2, 6);
        x.move(0, 0);
        Check.same("the pages have changed places", x.valueOf(1, 6, 2), 12);
        Check.same("the pages have changed places", x.valueOf(1, 12, 2), 6);
        Check.no("what is told at the path is told already", x.value(1, 12, 2, 6));
        x.move(1, 1);
        Check.same("another path to the same placement", x.valueOf(1, 12, 2), 0);
        Check.yes("where something else can be told", x.value(1, 12, 2, 33));
        x.move(1, 3);
        Check.same("the old path again", x.valueOf(1, 12, 2), 6);
        x.move(1, 1);
        Check.same("the other one again", x.valueOf(1, 12, 2), 33);
    }

    // "At most 40 are told", and each at a path of 23 placements
    private static void fortyTellingsAtTheDeepestPages() {
        SheetTrees x = Scenes.sheets(24);
        for (int s = 0; s < 22; s++) {
            x.place(s, s + 1);
        }
        for (int p = 22; p < 60; p++) {
            x.place(22, 23);
        }
        x.part(0, 1);
        x.part(0, 1);
        x.variant(NONE);
        Check.same("pages()", x.pages(), 61);
        for (int n = 0; n < 40; n++) {
            Check.yes("told", x.value(0, n < 38 ? 23 + n : n, n < 38 ? 0 : 1, 500 + n));
        }
        Check.no("the 41st", x.value(0, 60, 1, 1));
        for (int n = 0; n < 38; n++) {
            Check.same("valueOf(0, " + (23 + n) + ", 0)", x.valueOf(0, 23 + n, 0), 500 + n);
        }
        Check.same("valueOf(0, 38, 1)", x.valueOf(0, 38, 1), 538);
        Check.same("valueOf(0, 40, 1)", x.valueOf(0, 40, 1), 0);
        Check.same("valueOf(0, 22, 0)", x.valueOf(0, 22, 0), 0);
        x.move(22, 22);
        Check.same("the first is the last now", x.valueOf(0, 60, 0), 500);
        Check.same("the second is the first now", x.valueOf(0, 23, 0), 501);
        x.move(21, 20);
        Check.same("a path that is shorter by one", x.valueOf(0, 60, 0), 0);
    }

    // "PLACEMENTS .. (also those that are gone)": what is told at their paths is not told at those of new ones
    private static void pathsOfPlacementsThatAreGone() {
        SheetTrees x = Scenes.workshop();
        x.value(1, 1, 0, 11);
        x.remove(0);
        Check.same("another placement of the sheet", x.place(0, 1), 7);
        for (int page = 0; page < x.pages(); page++) {
            Check.same("valueOf(1, " + page + ", 0)", x.valueOf(1, page, 0), 0);
        }
        x.undo();
        x.undo();
        Check.same("it is back", x.valueOf(1, 1, 0), 11);
        x.undo();
        x.remove(0);
        x.undo();
        Check.same("nothing is told", x.valueOf(1, 1, 0), 0);
    }

    // "An object is used for at most 512 calls after it has been made"
    private static void theLastOf512Calls() {
        SheetTrees x = new SheetTrees();
        for (int n = 0; n < 461; n++) {
            Check.yes("rule", x.rule((n + 1) % 2));
        }
        for (int n = 0; n < 50; n++) {
            Check.yes("undo()", x.undo());
        }
        Check.no("the 512th call", x.undo());
    }
}
