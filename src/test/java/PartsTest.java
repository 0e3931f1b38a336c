/** Promises 10 to 13 and 22 to 24: parts, gates, copies, units and their names. */
public final class PartsTest {

    public static void main(String[] args) {
        partsAndTheirLimit();
        gates();
        gatesOfASheetAndTheirLimit();
        unitsOfGatesOnSeveralSheets();
        unitsInOrder();
        namesByTheRules();
        namesFollowThePages();
        manyUnits();
        copies();
        copiesOfWhatLiesElsewhere();
        copiesAndTheLimits();
        rules();
        Check.end();
    }

    private static void partsAndTheirLimit() {
        SheetTrees x = new SheetTrees();
        Check.noArgument("part(-1, 1)", () -> x.part(-1, 1));
        Check.noArgument("part(26, 1)", () -> x.part(26, 1));
        Check.noArgument("part(0, 0)", () -> x.part(0, 0));
        Check.noArgument("part(0, 9)", () -> x.part(0, 9));
        Check.noArgument("part(0, MIN)", () -> x.part(0, Integer.MIN_VALUE));
        for (int p = 0; p < 30; p++) {
            Check.same("part", x.part(p % 26, p % 8 + 1), p);
        }
        Check.none("the 31st", x.part(0, 1));
        Check.noArgument("a wrong letter comes before the limit", () -> x.part(26, 1));
        Check.yes("undo() of the 30th", x.undo());
        Check.noIndex("it is gone", () -> x.units(29));
        Check.same("the 30th again", x.part(25, 8), 29);
        Check.yes("with eight gates", x.gate(0, 29, 7));
    }

    private static void gates() {
        SheetTrees x = new SheetTrees();
        x.sheet();
        x.part(0, 3);
        Check.yes("gate(0, 0, 2)", x.gate(0, 0, 2));
        Check.no("it lies there", x.gate(0, 0, 2));
        Check.no("it lies on another one", x.gate(1, 0, 2));
        Check.noIndex("gate(0, 0, 3)", () -> x.gate(0, 0, 3));
        Check.noIndex("gate(0, 0, -1)", () -> x.gate(0, 0, -1));
        Check.noIndex("gate(0, 1, 0)", () -> x.gate(0, 1, 0));
        Check.noIndex("gate(0, -1, 0)", () -> x.gate(0, -1, 0));
        Check.noIndex("gate(2, 0, 0)", () -> x.gate(2, 0, 0));
        Check.noIndex("gate(-1, 0, 0)", () -> x.gate(-1, 0, 0));
        Check.same("where(0, 0, 2)", x.where(0, 0, 2), 0);
        Check.none("a gate that lies on none", x.where(0, 0, 0));
        Check.yes("undo()", x.undo());
        Check.same("units without a gate", x.units(0), 0);
        Check.yes("on the other one now", x.gate(1, 0, 2));
        Check.same("which comes to no page", x.units(0), 0);
        Check.noIndex("where(0, 0, 2) without units", () -> x.where(0, 0, 2));
        Check.noIndex("name(0, 0) without units", () -> x.name(0, 0));
    }

    private static void gatesOfASheetAndTheirLimit() {
        SheetTrees x = new SheetTrees();
        x.sheet();
        for (int p = 0; p < 3; p++) {
            x.part(p, 8);
        }
        for (int g = 0; g < 20; g++) {
            Check.yes("gate", x.gate(1, g / 8, g % 8));
        }
        Check.no("the 21st", x.gate(1, 2, 4));
        Check.noIndex("a wrong gate comes before the limit", () -> x.gate(1, 2, 8));
        Check.yes("on another sheet", x.gate(0, 2, 4));
        Check.same("a copy of twenty gates", x.copy(1), 2);
        Check.same("the last one's part", x.part(0, 1), 6);
        Check.no("the copy has twenty", x.gate(2, 6, 0));
    }

    /** Pages: 0 root, 1 sheet 1, 2 sheet 2, 3 sheet 2, 4 sheet 1, 5 sheet 2, 6 sheet 2. */
    private static SheetTrees twiceTwo() {
        SheetTrees x = new SheetTrees();
        x.sheet();
        x.sheet();
        x.place(0, 1);
        x.place(0, 1);
        x.place(1, 2);
        x.place(1, 2);
        return x;
    }

    private static void unitsOfGatesOnSeveralSheets() {
        SheetTrees x = twiceTwo();
        x.part(5, 4);
        x.gate(0, 0, 0);
        x.gate(1, 0, 1);
        x.gate(2, 0, 2);
        Check.same("units", x.units(0), 4);
        int[][] due = {{0, 1, 2}, {-1, 4, 3}, {-1, -1, 5}, {-1, -1, 6}};
        for (int unit = 0; unit < 4; unit++) {
            for (int gate = 0; gate < 3; gate++) {
                Check.same("where(0, " + unit + ", " + gate + ")", x.where(0, unit, gate), due[unit][gate]);
            }
            Check.none("a gate on no sheet", x.where(0, unit, 3));
            Check.same("name(0, " + unit + ")", x.name(0, unit), 50001 + unit);
        }
        Check.noIndex("where(0, 4, 0)", () -> x.where(0, 4, 0));
        Check.noIndex("where(0, -1, 0)", () -> x.where(0, -1, 0));
        Check.noIndex("where(0, 0, 4)", () -> x.where(0, 0, 4));
        Check.noIndex("where(0, 0, -1)", () -> x.where(0, 0, -1));
        Check.noIndex("where(1, 0, 0)", () -> x.where(1, 0, 0));
        Check.noIndex("where(-1, 0, 0)", () -> x.where(-1, 0, 0));
        Check.noIndex("name(0, 4)", () -> x.name(0, 4));
        Check.noIndex("name(0, -1)", () -> x.name(0, -1));
        Check.noIndex("name(1, 0)", () -> x.name(1, 0));
        Check.noIndex("name(-1, 0)", () -> x.name(-1, 0));
        Check.noIndex("units(1)", () -> x.units(1));
        Check.noIndex("units(-1)", () -> x.units(-1));
    }

    private static void unitsInOrder() {
        SheetTrees x = twiceTwo();
        x.part(1, 2);
        x.part(1, 1);
        x.part(1, 2);
        x.gate(2, 0, 1);
        x.gate(1, 1, 0);
        x.gate(1, 2, 0);
        x.gate(1, 0, 0);
        x.gate(2, 2, 1);
        // First pages: part 0: 1, 3, 5, 6; part 1: 1, 4; part 2: 1, 3, 5, 6.
        int[][] due = {{3, 4, 7, 9}, {1, 6}, {2, 5, 8, 10}};
        for (int part = 0; part < 3; part++) {
            for (int unit = 0; unit < due[part].length; unit++) {
                Check.same("name(" + part + ", " + unit + ")", x.name(part, unit), 10000 + due[part][unit]);
            }
        }
        Check.yes("rule(1)", x.rule(1));
        int[][] byPage = {{103, 301, 501, 601}, {101, 401}, {102, 302, 502, 602}};
        for (int part = 0; part < 3; part++) {
            for (int unit = 0; unit < byPage[part].length; unit++) {
                Check.same("name(" + part + ", " + unit + ")", x.name(part, unit), 10000 + byPage[part][unit]);
            }
        }
    }

    private static void namesByTheRules() {
        SheetTrees x = twiceTwo();
        x.part(0, 1);
        x.part(25, 1);
        x.part(0, 1);
        x.gate(1, 1, 0);
        x.gate(1, 2, 0);
        x.gate(1, 0, 0);
        Check.same("name(0, 0)", x.name(0, 0), 2);
        Check.same("name(0, 1)", x.name(0, 1), 4);
        Check.same("name(1, 0)", x.name(1, 0), 250001);
        Check.same("name(1, 1)", x.name(1, 1), 250002);
        Check.same("name(2, 0)", x.name(2, 0), 1);
        Check.same("name(2, 1)", x.name(2, 1), 3);
        x.rule(1);
        Check.same("name(0, 0)", x.name(0, 0), 102);
        Check.same("name(0, 1)", x.name(0, 1), 402);
        Check.same("name(1, 0)", x.name(1, 0), 250101);
        Check.same("name(1, 1)", x.name(1, 1), 250401);
        Check.same("name(2, 1)", x.name(2, 1), 401);
        x.rule(0);
        Check.same("name(2, 1)", x.name(2, 1), 3);
    }

    private static void namesFollowThePages() {
        SheetTrees x = new SheetTrees();
        x.sheet();
        x.sheet();
        x.place(0, 1);
        x.place(0, 2);
        x.part(2, 1);
        x.part(2, 1);
        x.gate(1, 0, 0);
        x.gate(2, 1, 0);
        Check.same("name(0, 0)", x.name(0, 0), 20001);
        Check.same("name(1, 0)", x.name(1, 0), 20002);
        x.move(0, 0);
        Check.same("name(0, 0)", x.name(0, 0), 20002);
        Check.same("name(1, 0)", x.name(1, 0), 20001);
        Check.same("where(0, 0, 0)", x.where(0, 0, 0), 2);
        x.remove(1);
        Check.same("name(0, 0)", x.name(0, 0), 20001);
        Check.same("units(1)", x.units(1), 0);
        x.undo();
        x.undo();
        Check.same("name(0, 0)", x.name(0, 0), 20001);
        Check.same("units(1)", x.units(1), 1);
    }

    private static void manyUnits() {
        SheetTrees x = new SheetTrees();
        x.sheet();
        x.sheet();
        for (int i = 0; i < 12; i++) {
            x.place(1, 2);
        }
        for (int i = 0; i < 23; i++) {
            x.place(0, 1);
        }
        for (int p = 0; p < 20; p++) {
            x.part(7, 1);
            x.gate(2, p, 0);
        }
        Check.same("units(19)", x.units(19), 276);
        Check.same("where(19, 275, 0)", x.where(19, 275, 0), 299);
        Check.same("name(19, 275)", x.name(19, 275), 70000 + 276 * 20);
        Check.noIndex("name(19, 276)", () -> x.name(19, 276));
        x.rule(1);
        Check.same("name(19, 275)", x.name(19, 275), 70000 + 29900 + 20);
    }

    private static void copies() {
        SheetTrees x = new SheetTrees();
        x.sheet();
        x.sheet();
        x.sheet();
        x.place(1, 2);
        x.place(1, 3);
        x.place(1, 2);
        x.move(0, 1);
        x.port(1, 31);
        x.port(1, 6);
        x.port(2, 4);
        x.join(0, 4, 31);
        Check.same("copy(1)", x.copy(1), 4);
        Check.same("it is placed nowhere", x.pages(), 1);
        Check.none("joined(3, 4)", x.joined(3, 4));
        Check.none("joined(4, 4)", x.joined(4, 4));
        Check.same("joined(5, 4)", x.joined(5, 4), 31);
        Check.no("its names are told", x.port(4, 31));
        Check.no("its names are told", x.port(4, 6));
        Check.yes("others are not", x.port(4, 5));
        Check.yes("nor on the first", x.port(1, 5));
        Check.same("place(0, 4)", x.place(0, 4), 6);
        Check.same("pages", x.pages(), 5);
        Check.same("page(2, 0)", x.page(2, 0), 3);
        Check.same("page(2, 1)", x.page(2, 1), 3);
        Check.same("page(3, 1)", x.page(3, 1), 4);
        Check.same("page(4, 1)", x.page(4, 1), 5);
        Check.yes("they are apart", x.remove(3));
        Check.same("place(0, 1)", x.place(0, 1), 7);
        Check.same("pages", x.pages(), 8);
        Check.none("a copy is held as its sheets are", x.place(2, 4));
        Check.noIndex("copy(5)", () -> x.copy(5));
        Check.noIndex("copy(-1)", () -> x.copy(-1));
        Check.same("a copy of the root", x.copy(0), 5);
        Check.none("a copy of the root may not lie in what lies in it", x.place(4, 5));
        Check.same("but on the root", x.place(0, 5), 10);
        Check.same("pages", x.pages(), 16);
    }

    private static void copiesOfWhatLiesElsewhere() {
        SheetTrees x = new SheetTrees();
        x.sheet();
        x.part(3, 2);
        x.part(4, 3);
        x.part(5, 1);
        x.gate(1, 1, 2);
        x.gate(1, 0, 1);
        x.gate(1, 1, 0);
        x.gate(0, 0, 0);
        x.gate(0, 2, 0);
        x.place(0, 1);
        Check.same("copy(1)", x.copy(1), 2);
        x.place(0, 2);
        Check.same("the next part", x.part(0, 1), 5);
        Check.same("part 3 is like part 1", x.name(3, 0), 40002);
        Check.same("part 4 is like part 0", x.name(4, 0), 30002);
        Check.same("where(3, 0, 2)", x.where(3, 0, 2), 2);
        Check.same("where(3, 0, 0)", x.where(3, 0, 0), 2);
        Check.none("where(3, 0, 1)", x.where(3, 0, 1));
        Check.same("where(4, 0, 1)", x.where(4, 0, 1), 2);
        Check.none("what lies elsewhere is not copied", x.where(4, 0, 0));
        Check.noIndex("gates are as many", () -> x.where(4, 0, 2));
        Check.noIndex("gates are as many", () -> x.where(3, 0, 3));
        Check.yes("that gate can still come", x.gate(1, 4, 0));
        Check.no("this one lies there", x.gate(1, 3, 2));
        Check.yes("undo()", x.undo());
        Check.yes("undo() of the part", x.undo());
        Check.yes("undo() of the place", x.undo());
        Check.yes("undo() of the copy", x.undo());
        Check.noIndex("its parts are gone", () -> x.units(3));
        Check.same("the same numbers come again", x.sheet(), 2);
        Check.same("the same numbers come again", x.part(9, 8), 3);
        Check.yes("a gate that the copy had", x.gate(0, 3, 2));
        Check.same("in another place", x.where(3, 0, 2), 0);
        Check.none("nothing is left of the copy", x.where(3, 0, 0));
    }

    private static void copiesAndTheLimits() {
        SheetTrees x = new SheetTrees();
        x.sheet();
        x.sheet();
        for (int p = 0; p < 29; p++) {
            x.part(0, 2);
        }
        x.gate(1, 0, 0);
        x.gate(1, 0, 1);
        x.gate(2, 1, 0);
        x.gate(2, 2, 0);
        Check.none("two parts, one is left", x.copy(2));
        Check.same("one part of two gates", x.copy(1), 3);
        Check.none("one part, none is left", x.copy(1));
        Check.yes("undo() of the copy that was made", x.undo());
        Check.same("the same again", x.copy(1), 3);

        SheetTrees y = new SheetTrees();
        y.sheet();
        y.sheet();
        for (int p = 0; p < 20; p++) {
            y.place(1, 2);
        }
        Check.same("20 more", y.copy(1), 3);
        Check.same("20 more", y.copy(3), 4);
        Check.none("20 more than 60", y.copy(1));
        Check.none("60 are there", y.place(0, 1));
        Check.yes("undo()", y.undo());
        Check.same("40 again", y.place(0, 1), 40);
        Check.none("20 more than 41 are 61", y.copy(1));
        Check.yes("remove", y.remove(0));
        Check.same("19 more", y.copy(1), 4);
    }

    private static void rules() {
        SheetTrees x = new SheetTrees();
        Check.no("rule(0)", x.rule(0));
        Check.yes("rule(1)", x.rule(1));
        Check.no("rule(1) again", x.rule(1));
        Check.noArgument("rule(2)", () -> x.rule(2));
        Check.noArgument("rule(-1)", () -> x.rule(-1));
        Check.noArgument("rule(MIN)", () -> x.rule(Integer.MIN_VALUE));
        Check.yes("undo()", x.undo());
        Check.yes("rule(1) behind undo()", x.rule(1));
        Check.yes("rule(0)", x.rule(0));
    }
}
