/** The boundary sentences of promises 10 to 13 and 22 to 24, one by one; each stands above its test. */
public final class PartEdgesTest {

    public static void main(String[] args) {
        partNoneWhenThereAre30();
        partOfLetterOrGatesNotSo();
        gateFalseWhenItLiesOnOne();
        gateFalseWhenTheSheetHas20();
        gateOfNoSuchSheetPartOrGate();
        copyIsPlacedNowhere();
        copyOfAnEmptySheet();
        copyOfWhatIsGone();
        copyPartByPart();
        copyOfAFullSheet();
        copyNoneWithoutASheetLeft();
        copyNoneWithoutPlacementsLeft();
        copyNoneWithoutPartsLeft();
        copyOfNoSuchSheet();
        ruleFalseWhenItIsThat();
        ruleThatIsNeither();
        unitsWithoutAny();
        unitsOfNoneSuch();
        whereNoneWhenItDoesNotComeSoOften();
        whereOfNoSuchPartUnitOrGate();
        nameOfNoSuchPartOrUnit();
        Check.end();
    }

    // Promise 10: "NONE, when there are 30."
    private static void partNoneWhenThereAre30() {
        SheetTrees x = Scenes.parts(29);
        Check.same("the 30th", x.part(25, 8), 29);
        Check.none("the 31st", x.part(0, 1));
        SheetTrees y = Scenes.parts(28);
        Check.same("copies count", y.copy(1), 5);
        Check.none("the 31st", y.part(0, 1));
        Refusals.in("30 parts", Scenes::fullOfParts)
                .none("part(0, 1)", z -> z.part(0, 1))
                .none("part(25, 8)", z -> z.part(25, 8))
                .changeNothing();
    }

    // Promise 10: "IllegalArgumentException, when letter or gates are not so."
    // Terms: "LETTER 0 .. 25 and 1 .. 8 GATES"
    private static void partOfLetterOrGatesNotSo() {
        partsAreRefused("three parts", Scenes::workshop);
        partsAreRefused("30 parts", Scenes::fullOfParts);
        SheetTrees x = new SheetTrees();
        Check.same("the least", x.part(0, 1), 0);
        Check.same("the most", x.part(25, 8), 1);
        Check.yes("one gate", x.gate(0, 0, 0));
        Check.noIndex("but one", () -> x.gate(0, 0, 1));
        for (int g = 0; g < 8; g++) {
            Check.yes("eight gates", x.gate(0, 1, g));
        }
        Check.noIndex("but eight", () -> x.gate(0, 1, 8));
        Check.same("letter 0", x.name(0, 0), 1);
        Check.same("letter 25", x.name(1, 0), 250001);
    }

    private static void partsAreRefused(String where, Scenes.Making scene) {
        Refusals r = Refusals.in(where, scene);
        for (int n : Scenes.outside(26)) {
            r.noArgument("part(" + n + ", 1)", x -> x.part(n, 1));
            r.noArgument("part(" + n + ", 0)", x -> x.part(n, 0));
        }
        for (int n : Scenes.outside(9)) {
            r.noArgument("part(0, " + n + ")", x -> x.part(0, n));
        }
        r.noArgument("part(25, 0)", x -> x.part(25, 0)).changeNothing();
    }

    // Promise 11: "false, when it lies on one"
    private static void gateFalseWhenItLiesOnOne() {
        Refusals.in("gates of three parts", Scenes::workshop)
                .no("on the same one", x -> x.gate(1, 1, 7))
                .no("on another one", x -> x.gate(0, 1, 7))
                .no("on another one where its part has a gate", x -> x.gate(2, 1, 7))
                .no("gate 0", x -> x.gate(3, 1, 0))
                .no("the only one", x -> x.gate(4, 0, 0))
                .changeNothing();
        SheetTrees x = Scenes.workshop();
        Check.yes("the others of the part do not", x.gate(1, 1, 6));
        Check.yes("undo()", x.undo());
        Check.yes("behind undo() it may come elsewhere", x.gate(0, 1, 6));
    }

    // Promise 11: "or the sheet has 20."
    private static void gateFalseWhenTheSheetHas20() {
        Refusals.in("20 gates on sheet 3", Scenes::fullOfGates)
                .no("the 21st", x -> x.gate(3, 5, 4))
                .no("of another part", x -> x.gate(3, 2, 1))
                .changeNothing();
        SheetTrees x = Scenes.fullOfGates();
        Check.yes("another sheet has fewer", x.gate(2, 5, 4));
        x.undo();
        Check.yes("undo() of the 20th", x.undo());
        Check.yes("another one as the 20th", x.gate(3, 5, 7));
        Check.no("the 21st", x.gate(3, 5, 3));
        x.undo();
        x.undo();
        Check.yes("the 19th", x.gate(3, 2, 1));
        Check.yes("the 20th", x.gate(3, 5, 7));
        Check.no("the 21st", x.gate(3, 5, 6));
    }

    // Promise 11: "IndexOutOfBoundsException, when there is no such sheet, part, or gate."
    private static void gateOfNoSuchSheetPartOrGate() {
        Refusals r = Refusals.in("five sheets, three parts", Scenes::workshop);
        for (int n : Scenes.outside(5)) {
            r.noIndex("gate(" + n + ", 2, 1)", x -> x.gate(n, 2, 1));
            r.noIndex("gate(" + n + ", 2, 0), which lies on one", x -> x.gate(n, 2, 0));
        }
        for (int n : Scenes.outside(3)) {
            r.noIndex("gate(0, " + n + ", 0)", x -> x.gate(0, n, 0));
        }
        for (int n : Scenes.outside(2)) {
            r.noIndex("gate(0, 2, " + n + ")", x -> x.gate(0, 2, n));
        }
        r.changeNothing();
        Refusals.in("20 gates on sheet 3", Scenes::fullOfGates)
                .noIndex("no such part", x -> x.gate(3, 6, 0))
                .noIndex("no such gate", x -> x.gate(3, 5, 8))
                .noIndex("no such gate of a smaller part", x -> x.gate(3, 2, 2))
                .noIndex("no such gate of the least part", x -> x.gate(3, 0, 1))
                .changeNothing();
    }

    // Promise 12: "A new sheet like another one, placed nowhere"
    private static void copyIsPlacedNowhere() {
        SheetTrees x = Scenes.fullOfPages();
        Check.same("also with 300 pages", x.copy(1), 5);
        Check.same("pages()", x.pages(), 300);
        Check.same("its twelve placements", x.place(3, 2), 48);
        Check.none("it has pages to come", x.place(0, 5));
        SheetTrees y = Scenes.workshop();
        Check.same("a copy of the root", y.copy(0), 5);
        Check.same("pages()", y.pages(), 13);
        Check.none("page 0 is the root still", y.page(0, 1));
        Check.same("page 0 is the root still", y.page(0, 0), 0);
        Check.same("a copy lies in nothing", y.place(5, 0), 9);
    }

    // Promise 12: a sheet without names, placements and gates
    private static void copyOfAnEmptySheet() {
        SheetTrees x = Scenes.sheets(2);
        Check.same("copy(1)", x.copy(1), 2);
        Check.yes("no names", x.port(2, 0));
        Check.same("no placements", x.place(0, 2), 0);
        Check.same("pages()", x.pages(), 2);
        Check.same("no parts", x.part(0, 1), 0);
    }

    // Promise 12: "in the same order placements of the same sheets (they join what those join)"
    private static void copyOfWhatIsGone() {
        SheetTrees x = Scenes.workshop();
        x.move(0, 0);
        x.port(1, 0);
        x.join(4, 0, 0);
        Check.same("copy(0)", x.copy(0), 5);
        Check.same("placements 4 and 0, but not 6, and 1 no more", x.place(0, 5), 9);
        int first = 13;
        Check.same("the copy's page", x.page(first, 1), 9);
        Check.same("its first", x.page(first + 1, 1), 7);
        Check.same("its second", x.page(first + 7, 1), 8);
        Check.same("no more", x.pages(), 26);
        Check.none("placement 4 does not join 5", x.joined(7, 5));
        Check.same("placement 4 joins 0", x.joined(7, 0), 0);
        Check.same("placement 0 joins 5", x.joined(8, 5), 0);
        Check.same("placement 0 joins 31", x.joined(8, 31), 31);
        Check.yes("each for itself", x.join(8, 5, 31));
        Check.same("each for itself", x.joined(0, 5), 0);
        x.copy(3);
        Check.none("what a move lost is not there to copy", x.joined(10, 7));
    }

    // Promise 12: "part by part as they first stand there, a new part like each, with the gates that it has there, in
    // their places"
    private static void copyPartByPart() {
        SheetTrees x = Scenes.sheets(2);
        x.part(0, 3);
        x.part(1, 2);
        x.part(0, 1);
        int[][] gates = {{2, 0}, {0, 2}, {1, 1}, {0, 0}};
        for (int[] g : gates) {
            x.gate(1, g[0], g[1]);
        }
        x.gate(0, 0, 1);
        x.gate(0, 1, 0);
        Check.same("copy(1)", x.copy(1), 2);
        Check.same("three parts more", x.part(9, 1), 6);
        x.place(0, 2);
        Check.same("part 3 is like part 2", x.name(3, 0), 2);
        Check.same("part 4 is like part 0", x.name(4, 0), 3);
        Check.same("part 5 is like part 1", x.name(5, 0), 10002);
        int[][] due = {{3, 0, 1}, {4, 0, 1}, {4, 1, -1}, {4, 2, 1}, {5, 0, -1}, {5, 1, 1}};
        for (int[] d : due) {
            Check.same("where(" + d[0] + ", 0, " + d[1] + ")", x.where(d[0], 0, d[1]), d[2]);
        }
        Check.noIndex("part 3 has one gate", () -> x.where(3, 0, 1));
        Check.noIndex("part 4 has three", () -> x.where(4, 0, 3));
        Check.noIndex("part 5 has two", () -> x.where(5, 0, 2));
    }

    // Promise 12, at the limit of Terms: "a sheet has at most 20"
    private static void copyOfAFullSheet() {
        SheetTrees x = Scenes.fullOfGates();
        Check.same("copy(3)", x.copy(3), 5);
        Check.same("the last one's part", x.part(0, 1), 9);
        Check.no("it has 20", x.gate(5, 9, 0));
        Check.yes("undo()", x.undo());
        Check.yes("undo()", x.undo());
        Check.noIndex("its parts are gone", () -> x.units(6));
        Check.noIndex("it is gone", () -> x.port(5, 0));
    }

    // Promise 12: "NONE, when there are not so many sheets .. left."
    private static void copyNoneWithoutASheetLeft() {
        Refusals.in("24 sheets", Scenes::fullOfSheets)
                .none("an empty one", x -> x.copy(23))
                .none("the root", x -> x.copy(0))
                .none("sheet 1", x -> x.copy(1))
                .changeNothing();
        SheetTrees x = Scenes.fullOfSheets();
        x.undo();
        Check.same("the 24th", x.copy(1), 23);
    }

    // Promise 12: "NONE, when there are not so many .. placements .. left."
    private static void copyNoneWithoutPlacementsLeft() {
        Refusals.in("60 placements", Scenes::fullOfPlacements)
                .none("one of two", x -> x.copy(0))
                .none("one of one", x -> x.copy(2))
                .none("one of 53", x -> x.copy(5))
                .changeNothing();
        Check.same("one of none", Scenes.fullOfPlacements().copy(4), 6);
        Refusals.in("59 placements", () -> Scenes.placements(59))
                .none("one of two", x -> x.copy(0))
                .changeNothing();
        Check.same("one of one", Scenes.placements(59).copy(2), 6);
        SheetTrees x = Scenes.placements(58);
        Check.same("one of two", x.copy(0), 6);
        Check.none("then there are 60", x.place(0, 4));
        SheetTrees y = Scenes.fullOfPlacements();
        y.remove(5);
        Check.same("what is gone needs none", y.copy(2), 6);
        SheetTrees z = Scenes.fullOfPlacements();
        for (int p = 7; p < 60; p++) {
            z.remove(p);
        }
        Check.none("what is gone leaves none", z.copy(2));
    }

    // Promise 12: "NONE, when there are not so many .. parts left."
    private static void copyNoneWithoutPartsLeft() {
        Refusals.in("30 parts", Scenes::fullOfParts)
                .none("one of two", x -> x.copy(1))
                .none("one of one", x -> x.copy(2))
                .changeNothing();
        Check.same("one of none", Scenes.fullOfParts().copy(3), 5);
        Refusals.in("29 parts", () -> Scenes.parts(29))
                .none("one of two", x -> x.copy(1))
                .changeNothing();
        Check.same("one of one", Scenes.parts(29).copy(2), 5);
        SheetTrees x = Scenes.parts(28);
        Check.same("one of two", x.copy(1), 5);
        Check.none("then there are 30", x.part(0, 1));
        SheetTrees y = Scenes.parts(29);
        y.gate(2, 1, 1);
        y.gate(2, 1, 2);
        Check.same("three gates of one part", y.copy(2), 5);
    }

    // Promise 12: "IndexOutOfBoundsException, when there is no such sheet."
    private static void copyOfNoSuchSheet() {
        copiesAreRefused("five sheets", Scenes::workshop, 5);
        copiesAreRefused("24 sheets", Scenes::fullOfSheets, 24);
        copiesAreRefused("60 placements", Scenes::fullOfPlacements, 6);
        copiesAreRefused("30 parts", Scenes::fullOfParts, 5);
    }

    private static void copiesAreRefused(String where, Scenes.Making scene, int sheets) {
        Refusals r = Refusals.in(where, scene);
        for (int n : Scenes.outside(sheets)) {
            r.noIndex("copy(" + n + ")", x -> x.copy(n));
        }
        r.changeNothing();
    }

    private static SheetTrees workshopByPage() {
        SheetTrees x = Scenes.workshop();
        x.rule(1);
        return x;
    }

    // Promise 13: "false, when it is that."
    private static void ruleFalseWhenItIsThat() {
        Refusals.in("rule 0", Scenes::workshop).no("rule(0)", x -> x.rule(0)).changeNothing();
        Refusals.in("rule 1", PartEdgesTest::workshopByPage).no("rule(1)", x -> x.rule(1)).changeNothing();
        SheetTrees x = workshopByPage();
        Check.yes("rule(0)", x.rule(0));
        Check.yes("undo()", x.undo());
        Check.no("rule 1 it is again", x.rule(1));
        Check.yes("undo()", x.undo());
        Check.no("rule 0 it is again", x.rule(0));
    }

    // Promise 13: "IllegalArgumentException, when how is neither."
    private static void ruleThatIsNeither() {
        rulesAreRefused("rule 0", Scenes::workshop);
        rulesAreRefused("rule 1", PartEdgesTest::workshopByPage);
    }

    private static void rulesAreRefused(String where, Scenes.Making scene) {
        Refusals r = Refusals.in(where, scene);
        for (int n : Scenes.outside(2)) {
            r.noArgument("rule(" + n + ")", x -> x.rule(n));
        }
        r.changeNothing();
    }

    // Promise 22: "How many units a part has."; Terms: "as its gate that comes most often"
    private static void unitsWithoutAny() {
        SheetTrees x = Scenes.workshop();
        Check.same("gates on sheets 1 and 2, which come twice and four times", x.units(1), 4);
        Check.same("a gate on sheet 4", x.units(0), 4);
        x.part(7, 8);
        Check.same("no gate lies on a sheet", x.units(3), 0);
        x.sheet();
        x.gate(5, 3, 7);
        Check.same("on a sheet without pages", x.units(3), 0);
        x.place(0, 5);
        Check.same("with one", x.units(3), 1);
        Check.same("276 units", Scenes.fullOfPages().units(0), 276);
        SheetTrees y = Scenes.sheets(2);
        for (int p = 0; p < 60; p++) {
            y.place(0, 1);
        }
        y.part(0, 2);
        y.gate(0, 0, 0);
        Check.same("once", y.units(0), 1);
        y.gate(1, 0, 1);
        Check.same("60 times", y.units(0), 60);
        y.remove(0);
        Check.same("59 times", y.units(0), 59);
        y.part(0, 8);
        y.part(0, 1);
        y.gate(0, 1, 7);
        y.gate(1, 2, 0);
        Check.same("the last of eight gates, once", y.units(1), 1);
        Check.same("the next part's first, 59 times", y.units(2), 59);
    }

    // Promise 22: "IndexOutOfBoundsException, when there is none such."
    private static void unitsOfNoneSuch() {
        Refusals r = Refusals.in("three parts", Scenes::workshop);
        for (int n : Scenes.outside(3)) {
            r.noIndex("units(" + n + ")", x -> x.units(n));
        }
        r.changeNothing();
        Refusals.in("30 parts", Scenes::fullOfParts).noIndex("units(30)", x -> x.units(30)).changeNothing();
    }

    // Promise 23: "NONE, when that does not come so often."
    private static void whereNoneWhenItDoesNotComeSoOften() {
        Refusals.in("gate 7 comes twice, gate 0 four times, the others never", Scenes::workshop)
                .none("unit 2 has no gate 7", x -> x.where(1, 2, 7))
                .none("unit 3 has no gate 7", x -> x.where(1, 3, 7))
                .none("no unit has gate 6", x -> x.where(1, 0, 6))
                .changeNothing();
        SheetTrees x = Scenes.workshop();
        Check.same("unit 1 has gate 7", x.where(1, 1, 7), 7);
        Check.same("unit 3 has gate 0", x.where(1, 3, 0), 11);
        x.sheet();
        x.gate(5, 1, 6);
        Check.none("a gate on a sheet without pages", x.where(1, 0, 6));
        Check.same("the last page", Scenes.fullOfPages().where(0, 275, 0), 299);
        SheetTrees y = Scenes.sheets(3);
        int[] placed = {1, 2, 2, 1};
        for (int sheet : placed) {
            y.place(0, sheet);
        }
        y.part(0, 2);
        y.gate(1, 0, 0);
        y.gate(2, 0, 1);
        Check.same("the last page", y.where(0, 1, 0), 4);
        y.remove(3);
        Check.none("a page that is there no more", y.where(0, 1, 0));
        Check.same("its other gate's", y.where(0, 1, 1), 3);
        Check.same("page 0", rootPart().where(0, 0, 0), 0);
    }

    private static SheetTrees rootPart() {
        SheetTrees x = new SheetTrees();
        x.part(0, 1);
        x.gate(0, 0, 0);
        return x;
    }

    // Promise 23: "IndexOutOfBoundsException, when there is no such part, unit, or gate."
    private static void whereOfNoSuchPartUnitOrGate() {
        Refusals r = Refusals.in("part 1 has four units, part 2 two, of two gates", Scenes::workshop);
        for (int n : Scenes.outside(3)) {
            r.noIndex("where(" + n + ", 0, 0)", x -> x.where(n, 0, 0));
        }
        for (int n : Scenes.outside(4)) {
            r.noIndex("where(1, " + n + ", 0)", x -> x.where(1, n, 0));
        }
        for (int n : Scenes.outside(2)) {
            r.noIndex("where(2, " + n + ", 0)", x -> x.where(2, n, 0));
            r.noIndex("where(2, 0, " + n + ")", x -> x.where(2, 0, n));
        }
        r.changeNothing();
        Refusals.in("parts without units", Scenes::fullOfParts)
                .noIndex("where(29, 0, 0)", x -> x.where(29, 0, 0))
                .noIndex("where(30, 0, 0)", x -> x.where(30, 0, 0))
                .changeNothing();
        Refusals.in("276 units", Scenes::fullOfPages)
                .noIndex("where(0, 276, 0)", x -> x.where(0, 276, 0))
                .noIndex("where(1, 23, 0)", x -> x.where(1, 23, 0))
                .changeNothing();
    }

    // Promise 24: "IndexOutOfBoundsException, when there is no such part, or unit."
    private static void nameOfNoSuchPartOrUnit() {
        Refusals r = Refusals.in("part 1 has four units, part 2 two", Scenes::workshop);
        for (int n : Scenes.outside(3)) {
            r.noIndex("name(" + n + ", 0)", x -> x.name(n, 0));
        }
        for (int n : Scenes.outside(4)) {
            r.noIndex("name(1, " + n + ")", x -> x.name(1, n));
        }
        for (int n : Scenes.outside(2)) {
            r.noIndex("name(2, " + n + ")", x -> x.name(2, n));
        }
        r.changeNothing();
        Refusals.in("rule 1", PartEdgesTest::workshopByPage)
                .noIndex("name(2, 2)", x -> x.name(2, 2))
                .noIndex("name(3, 0)", x -> x.name(3, 0))
                .changeNothing();
        Refusals.in("276 units", Scenes::fullOfPages)
                .noIndex("name(0, 276)", x -> x.name(0, 276))
                .noIndex("name(1, 23)", x -> x.name(1, 23))
                .changeNothing();
        SheetTrees x = Scenes.workshop();
        x.remove(0);
        Check.noIndex("a unit that is there no more", () -> x.name(1, 2));
        Check.same("the last that is", x.name(1, 1), 250002);
    }
}
