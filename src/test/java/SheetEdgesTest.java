/** The boundary sentences of promises 1 to 9, 20 and 21, one by one; each stands above its test. */
public final class SheetEdgesTest {

    public static void main(String[] args) {
        theRootAlone();
        sheetNoneWhenThereAre24();
        sheetIsPlacedNowhere();
        placeNoneWhenThereWere60();
        placeNoneWhenItWouldLieInItself();
        placeNoneBeyond300Pages();
        placeOfNoSuchSheet();
        removeOfNoneSuchOrGone();
        removeGoesWithWhatItJoins();
        moveBehindWhatIsThere();
        moveToWhereItIsAlready();
        moveLosesWhatIsNotToldThere();
        moveFalseWhenItWouldLieInItself();
        moveFalseBeyond300Pages();
        moveOfNoSuchPlacementOrSheet();
        toldRising();
        toldNoneWhenThereIsNoneSuch();
        toldStaysBehindRefusedMoves();
        toldIsOfTheLatestMove();
        toldNothingBehindUndo();
        portFalseWhenToldAlready();
        portOfNoSuchSheetOrName();
        joinFalseWhenOneIsNotTold();
        joinFalseWhenItDoesAlready();
        joinAnew();
        joinOfNoSuchPlacementOrName();
        joinedNoneWithout();
        joinedNoneWhenNew();
        joinedOfNoSuchPlacementOrName();
        pagesFrom1To300();
        pageOfTheRoot();
        pageOfNoSuchPageOrThing();
        Check.end();
    }

    // Promise 1: "The root alone."
    private static void theRootAlone() {
        Refusals.in("a new object", SheetTrees::new)
                .noIndex("sheet 1", x -> x.copy(1))
                .noIndex("placement 0", x -> x.remove(0))
                .noIndex("page 1", x -> x.page(1, 0))
                .noIndex("part 0", x -> x.units(0))
                .noIndex("variant 0", x -> x.valueOf(0, 0, 0))
                .no("no act", SheetTrees::undo)
                .none("nothing told", x -> x.told(0))
                .no("rule 0 it is", x -> x.rule(0))
                .changeNothing();
        SheetTrees x = new SheetTrees();
        Check.same("pages()", x.pages(), 1);
        for (int name = 0; name < 32; name++) {
            Check.yes("no name is told", x.port(0, name));
        }
        Check.same("the first sheet", x.sheet(), 1);
        Check.same("the first placement", x.place(0, 1), 0);
        Check.same("the first part", x.part(0, 1), 0);
        Check.same("the first variant", x.variant(SheetTrees.NONE), 0);
    }

    // Promise 2: "NONE, when there are 24."
    private static void sheetNoneWhenThereAre24() {
        SheetTrees x = Scenes.sheets(23);
        Check.same("the 24th", x.sheet(), 23);
        Check.none("the 25th", x.sheet());
        SheetTrees y = Scenes.sheets(23);
        Check.same("a copy is the 24th", y.copy(0), 23);
        Check.none("the 25th", y.sheet());
        Refusals.in("24 sheets", Scenes::fullOfSheets)
                .none("sheet()", SheetTrees::sheet)
                .none("sheet() once more", SheetTrees::sheet)
                .changeNothing();
    }

    // Promise 2: "A new sheet, placed nowhere"
    private static void sheetIsPlacedNowhere() {
        SheetTrees x = Scenes.fullOfPages();
        Check.same("also with 300 pages", x.sheet(), 5);
        Check.same("pages()", x.pages(), 300);
        SheetTrees y = Scenes.fullOfPlacements();
        Check.same("also with 60 placements", y.sheet(), 6);
    }

    // Promise 3: "NONE, when there were 60"
    private static void placeNoneWhenThereWere60() {
        Check.same("the 60th", Scenes.placements(59).place(5, 4), 59);
        Refusals.in("60 placements", Scenes::fullOfPlacements)
                .none("on a sheet without pages", x -> x.place(5, 4))
                .none("on the root", x -> x.place(0, 4))
                .none("a sheet on itself", x -> x.place(4, 4))
                .changeNothing();
        Refusals.in("60 placements, some gone", SheetEdgesTest::sixtyOfWhichTenAreGone)
                .none("place", x -> x.place(5, 4))
                .changeNothing();
        SheetTrees z = Scenes.fullOfPlacements();
        z.undo();
        Check.same("the 60th behind undo()", z.place(0, 4), 59);
    }

    private static SheetTrees sixtyOfWhichTenAreGone() {
        SheetTrees x = Scenes.fullOfPlacements();
        for (int p = 50; p < 60; p++) {
            x.remove(p);
        }
        return x;
    }

    // Promise 3: "or a sheet would lie in itself"
    private static void placeNoneWhenItWouldLieInItself() {
        Refusals.in("five sheets in one another", Scenes::workshop)
                .none("the root on itself", x -> x.place(0, 0))
                .none("a sheet on itself", x -> x.place(4, 4))
                .none("on a sheet placed on it", x -> x.place(2, 1))
                .none("on one that lies in it", x -> x.place(4, 1))
                .none("on one that lies in it by a move", x -> x.place(4, 3))
                .none("the root on a sheet in it", x -> x.place(4, 0))
                .changeNothing();
        Refusals.in("what does not come to the root", SheetEdgesTest::chainBesideTheRoot)
                .none("the last on the first", x -> x.place(1, 23))
                .none("the first on itself", x -> x.place(1, 1))
                .none("the last on the root, which lies in it", x -> x.place(0, 23))
                .changeNothing();
        SheetTrees x = chainBesideTheRoot();
        Check.same("what is gone holds nothing", x.remove(1) ? x.place(1, 23) : -2, 23);
    }

    /** Each sheet on the one behind it, and the root on sheet 1: sheet 23 holds all of them; 23 placements. */
    private static SheetTrees chainBesideTheRoot() {
        SheetTrees x = Scenes.sheets(24);
        for (int s = 0; s < 23; s++) {
            x.place(s + 1, s);
        }
        return x;
    }

    // Promise 3: "or there would be more than 300 pages"
    private static void placeNoneBeyond300Pages() {
        Refusals.in("300 pages", Scenes::fullOfPages)
                .none("one more", x -> x.place(0, 4))
                .none("two more", x -> x.place(0, 3))
                .none("13 more", x -> x.place(0, 1))
                .none("23 more", x -> x.place(1, 4))
                .none("276 more", x -> x.place(2, 4))
                .changeNothing();
        SheetTrees x = Scenes.fullOfPages();
        Check.same("where no pages are", x.place(4, 2), 36);
        Check.yes("13 less", x.remove(12));
        for (int n = 0; n < 13; n++) {
            Check.same("one more", x.place(0, 2), 37 + n);
        }
        Check.same("pages()", x.pages(), 300);
        Check.none("301", x.place(0, 2));
        Refusals.in("sheets of more pages than an int can count", SheetEdgesTest::billionsOfPages)
                .none("3,666,145,738 more, below 0 as an int", y -> y.place(0, 1))
                .none("a third of these", y -> y.place(0, 2))
                .changeNothing();
    }

    /** Each sheet thrice or twice on the one before it, but none on the root; 59 placements. */
    private static SheetTrees billionsOfPages() {
        SheetTrees x = Scenes.sheets(24);
        for (int s = 1; s < 23; s++) {
            for (int i = 0; i < (s < 16 ? 3 : 2); i++) {
                x.place(s, s + 1);
            }
        }
        return x;
    }

    // Promise 3: "IndexOutOfBoundsException, when there is no such sheet."
    private static void placeOfNoSuchSheet() {
        placesAreRefused("five sheets", Scenes::workshop, 5);
        placesAreRefused("24 sheets", Scenes::fullOfSheets, 24);
        placesAreRefused("60 placements", Scenes::fullOfPlacements, 6);
        placesAreRefused("300 pages", Scenes::fullOfPages, 5);
    }

    private static void placesAreRefused(String where, Scenes.Making scene, int sheets) {
        Refusals r = Refusals.in(where, scene);
        for (int n : Scenes.outside(sheets)) {
            r.noIndex("place(" + n + ", 1)", x -> x.place(n, 1));
            r.noIndex("place(0, " + n + ")", x -> x.place(0, n));
            r.noIndex("place(" + n + ", " + n + ")", x -> x.place(n, n));
        }
        r.changeNothing();
    }

    // Promise 4: "IndexOutOfBoundsException, when there is none such, or it is gone."
    private static void removeOfNoneSuchOrGone() {
        Refusals r = Refusals.in("seven placements, one gone", Scenes::workshop);
        for (int n : Scenes.outside(7)) {
            r.noIndex("remove(" + n + ")", x -> x.remove(n));
        }
        r.noIndex("remove(6), which is gone", x -> x.remove(6)).changeNothing();
        Refusals.in("60 placements", Scenes::fullOfPlacements)
                .noIndex("remove(60)", x -> x.remove(60))
                .changeNothing();
        SheetTrees x = Scenes.fullOfPlacements();
        Check.yes("the 60th goes", x.remove(59));
        Check.noIndex("once", () -> x.remove(59));
        Check.yes("undo()", x.undo());
        Check.yes("and again", x.remove(59));
    }

    // Promise 4: "A placement goes, with what it joins: true."
    private static void removeGoesWithWhatItJoins() {
        SheetTrees x = Scenes.workshop();
        Check.yes("remove(0)", x.remove(0));
        Check.noIndex("what it joined", () -> x.joined(0, 5));
        Check.same("pages()", x.pages(), 7);
        Check.same("another placement of that sheet", x.place(0, 1), 7);
        Check.none("joins nothing", x.joined(7, 5));
        x.undo();
        Check.yes("undo() of remove", x.undo());
        Check.same("it is back", x.joined(0, 5), 0);
        Check.same("in its place", x.page(1, 1), 0);
        Check.yes("one that comes to no page goes, too", Scenes.fullOfPlacements().remove(30));
    }

    // Promise 5: "A placement goes to another parent, behind what is on that"
    private static void moveBehindWhatIsThere() {
        SheetTrees x = Scenes.workshop();
        Check.yes("to the root", x.move(3, 0));
        Check.same("behind 0 and 4", x.page(x.pages() - 3, 1), 3);
        Check.yes("to a sheet with none", x.move(5, 3));
        Check.same("pages()", x.pages(), 8);
        Check.yes("to a sheet that has one", x.move(5, 3));
        Check.same("the last page", x.page(7, 1), 5);
    }

    // Promise 5: "(also if it is on that already)"
    private static void moveToWhereItIsAlready() {
        SheetTrees x = Scenes.workshop();
        Check.yes("move(0, 0)", x.move(0, 0));
        Check.same("now the first", x.page(1, 1), 4);
        Check.same("now the last", x.page(7, 1), 0);
        Check.same("it joins what it did", x.joined(0, 5), 0);
        Check.same("it joins what it did", x.joined(0, 31), 31);
        Check.none("nothing is lost", x.told(0));
        Check.yes("also when it is the last", x.move(0, 0));
        Check.same("still the last", x.page(7, 1), 0);
        Check.yes("undo() of that act", x.undo());
        Check.same("still the last", x.page(7, 1), 0);
        Check.yes("undo() of the first one", x.undo());
        Check.same("the first again", x.page(1, 1), 0);
        Check.yes("also when it is alone", x.move(5, 2));
    }

    // Promise 5: "what it joins to a name that is not told there is lost, and TOLD."
    private static void moveLosesWhatIsNotToldThere() {
        SheetTrees x = Scenes.workshop();
        Check.same("told(0) of the workshop's move", x.told(0), 7);
        Check.none("joined(1, 7)", x.joined(1, 7));
        Check.yes("sheet 3 tells 0", x.port(3, 0));
        Check.yes("move(0, 4)", x.sheet() == 5 && x.port(5, 0) && x.move(0, 5));
        Check.same("what is told there stays", x.joined(0, 5), 0);
        Check.none("what is not is lost", x.joined(0, 31));
        Check.same("told(0)", x.told(0), 31);
        Check.none("told(1)", x.told(1));
        x.port(5, 31);
        Check.none("told later, it is not joined again", x.joined(0, 31));
        Check.yes("it can be joined", x.join(0, 31, 31));
    }

    // Promise 5: "False (what is told stays), when a sheet would lie in itself"
    private static void moveFalseWhenItWouldLieInItself() {
        Refusals.in("five sheets in one another", Scenes::workshop)
                .no("onto its own sheet", x -> x.move(0, 1))
                .no("onto a sheet placed on it", x -> x.move(0, 2))
                .no("onto one that lies in it", x -> x.move(0, 4))
                .no("onto one that lies in it by a move", x -> x.move(3, 4))
                .no("the last one onto its own sheet", x -> x.move(5, 4))
                .changeNothing();
        Refusals.in("what does not come to the root", SheetEdgesTest::chainBesideTheRoot)
                .no("the root's placement onto the root", x -> x.move(0, 0))
                .no("far down", x -> x.move(22, 0))
                .no("onto its own sheet", x -> x.move(22, 22))
                .changeNothing();
    }

    // Promise 5: "or there would be more than 300 pages."
    private static void moveFalseBeyond300Pages() {
        Refusals.in("300 pages", Scenes::fullOfPages)
                .no("one more", x -> x.move(35, 0))
                .no("23 more", x -> x.move(35, 1))
                .no("276 more", x -> x.move(35, 2))
                .changeNothing();
        SheetTrees x = Scenes.fullOfPages();
        Check.yes("none more", x.move(34, 0));
        Check.yes("13 less", x.move(34, 3));
        Check.same("pages()", x.pages(), 287);
        Check.yes("13 more", x.move(34, 0));
        Check.same("pages()", x.pages(), 300);
        Check.yes("22 less", x.move(11, 0));
        Check.same("pages()", x.pages(), 278);
        Check.yes("22 more", x.move(11, 1));
        Check.same("pages()", x.pages(), 300);
        Check.yes("without pages", x.move(35, 4) || x.move(35, 3));
    }

    // Promise 5: "IndexOutOfBoundsException likewise."
    private static void moveOfNoSuchPlacementOrSheet() {
        movesAreRefused("seven placements, one gone", Scenes::workshop, 7, 5);
        movesAreRefused("60 placements", Scenes::fullOfPlacements, 60, 6);
        movesAreRefused("300 pages", Scenes::fullOfPages, 36, 5);
        Refusals.in("placement 6 is gone", Scenes::workshop)
                .noIndex("move(6, 0)", x -> x.move(6, 0))
                .noIndex("move(6, 3)", x -> x.move(6, 3))
                .changeNothing();
    }

    private static void movesAreRefused(String where, Scenes.Making scene, int placements, int sheets) {
        Refusals r = Refusals.in(where, scene);
        for (int n : Scenes.outside(placements)) {
            r.noIndex("move(" + n + ", 0)", x -> x.move(n, 0));
        }
        for (int n : Scenes.outside(sheets)) {
            r.noIndex("move(0, " + n + ")", x -> x.move(0, n));
        }
        r.changeNothing();
    }

    /** Placement 0, moved to sheet 2, lost the joints of 1, 30 and 31, but not that of 0; placement 1 is on the root. */
    private static SheetTrees threeLost() {
        SheetTrees x = Scenes.sheets(3);
        x.place(0, 1);
        x.place(0, 2);
        int[] names = {31, 1, 30, 0};
        for (int n : names) {
            x.port(1, n);
            x.port(0, 31 - n);
            x.join(0, n, 31 - n);
        }
        x.port(2, 31);
        x.move(0, 2);
        return x;
    }

    // Promise 6: "The k-th name of its sheet, rising, whose joint the latest move() that was done lost"
    private static void toldRising() {
        SheetTrees x = threeLost();
        Check.same("told(0)", x.told(0), 1);
        Check.same("told(1)", x.told(1), 30);
        Check.same("told(2)", x.told(2), 31);
        Check.same("what was kept", x.joined(0, 0), 31);
        SheetTrees y = Scenes.sheets(3);
        y.place(0, 1);
        y.place(0, 1);
        y.port(1, 0);
        y.port(0, 0);
        y.join(0, 0, 0);
        y.join(1, 0, 0);
        Check.yes("move(0, 2)", y.move(0, 2));
        Check.same("name 0, told(0)", y.told(0), 0);
        Check.none("no other one", y.told(1));
        Check.none("joined(0, 0)", y.joined(0, 0));
        Check.same("another placement's joint stays", y.joined(1, 0), 0);
    }

    // Promise 6: "NONE, when there is none such."
    private static void toldNoneWhenThereIsNoneSuch() {
        Refusals r = Refusals.in("three lost", SheetEdgesTest::threeLost);
        for (int n : Scenes.outside(3)) {
            r.none("told(" + n + ")", x -> x.told(n));
        }
        r.changeNothing();
        Refusals r2 = Refusals.in("no move yet", () -> Scenes.sheets(2));
        for (int n : Scenes.outside(0)) {
            r2.none("told(" + n + ")", x -> x.told(n));
        }
        r2.changeNothing();
    }

    // Promise 5: "False (what is told stays)"; Promise 6: "the latest move() that was done"
    private static void toldStaysBehindRefusedMoves() {
        Refusals.in("three lost", SheetEdgesTest::threeLost)
                .no("onto its own sheet", x -> x.move(0, 1))
                .no("onto what lies in it", x -> x.move(1, 1))
                .noIndex("no such placement", x -> x.move(2, 0))
                .noIndex("no such sheet", x -> x.move(0, 3))
                .changeNothing();
    }

    // Promise 6: "the latest move() that was done"
    private static void toldIsOfTheLatestMove() {
        SheetTrees x = threeLost();
        x.sheet();
        x.remove(0);
        x.copy(0);
        x.port(2, 1);
        Check.same("other acts tell nothing", x.told(0), 1);
        Check.yes("a move without joints", x.move(1, 3));
        Check.none("tells none", x.told(0));
    }

    // Promise 6: "(Nothing is told behind undo().)"
    private static void toldNothingBehindUndo() {
        SheetTrees x = threeLost();
        Check.yes("undo() of the move", x.undo());
        Check.none("told(0)", x.told(0));
        SheetTrees y = threeLost();
        y.sheet();
        Check.yes("undo() of another act", y.undo());
        Check.none("told(0)", y.told(0));
        SheetTrees z = threeLost();
        z.move(1, 0);
        Check.yes("undo() of a later move", z.undo());
        Check.none("the earlier one tells nothing again", z.told(0));
    }

    // Promise 7: "false, when it is already."
    private static void portFalseWhenToldAlready() {
        SheetTrees x = Scenes.sheets(24);
        for (int name = 0; name < 32; name++) {
            Check.yes("port(23, " + name + ")", x.port(23, name));
            Check.no("again", x.port(23, name));
        }
        Check.yes("another sheet", x.port(22, 31));
        Refusals.in("two names told", Scenes::workshop)
                .no("port(0, 0)", y -> y.port(0, 0))
                .no("port(0, 31)", y -> y.port(0, 31))
                .no("port(2, 8)", y -> y.port(2, 8))
                .changeNothing();
        SheetTrees z = Scenes.workshop();
        Check.same("a copy", z.copy(1), 5);
        Check.no("has its names", z.port(5, 31));
    }

    // Promise 7: "IndexOutOfBoundsException, when there is no such sheet, or name."
    private static void portOfNoSuchSheetOrName() {
        Refusals r = Refusals.in("five sheets", Scenes::workshop);
        for (int n : Scenes.outside(5)) {
            r.noIndex("port(" + n + ", 0)", x -> x.port(n, 0));
        }
        for (int n : Scenes.outside(32)) {
            r.noIndex("port(3, " + n + ")", x -> x.port(3, n));
        }
        r.changeNothing();
        Refusals.in("24 sheets", Scenes::fullOfSheets)
                .noIndex("port(24, 0)", x -> x.port(24, 0))
                .noIndex("port(23, 32)", x -> x.port(23, 32))
                .changeNothing();
    }

    // Promise 8: "false, when one of them is not told"
    private static void joinFalseWhenOneIsNotTold() {
        Refusals.in("names of the root 0 and 31, of sheet 1 5 and 31", Scenes::workshop)
                .no("neither", x -> x.join(0, 9, 9))
                .no("the outer one is not", x -> x.join(0, 5, 9))
                .no("the outer one is told on its sheet alone", x -> x.join(0, 31, 5))
                .no("the inner one is not", x -> x.join(0, 9, 31))
                .no("the inner one is told on its parent alone", x -> x.join(0, 0, 0))
                .no("the parent before the move does not count", x -> x.join(1, 7, 31))
                .changeNothing();
    }

    // Promise 8: "or it does already."
    private static void joinFalseWhenItDoesAlready() {
        Refusals.in("joints", Scenes::workshop)
                .no("join(0, 5, 0)", x -> x.join(0, 5, 0))
                .no("join(0, 31, 31)", x -> x.join(0, 31, 31))
                .no("join(2, 8, 5)", x -> x.join(2, 8, 5))
                .changeNothing();
        SheetTrees x = Scenes.workshop();
        Check.yes("another placement of the sheet does not", x.join(4, 5, 0));
        Check.yes("undo()", x.undo());
        Check.yes("nor this one behind undo()", x.join(4, 5, 0));
    }

    // Promise 8: "(it may have joined it to another one)"; Terms: "(each to one at most)"
    private static void joinAnew() {
        SheetTrees x = Scenes.workshop();
        Check.yes("join(0, 5, 31)", x.join(0, 5, 31));
        Check.same("to one at most", x.joined(0, 5), 31);
        Check.same("the other name's joint stays", x.joined(0, 31), 31);
        Check.yes("back", x.join(0, 5, 0));
        Check.same("joined(0, 5)", x.joined(0, 5), 0);
        Check.yes("undo()", x.undo());
        Check.same("joined(0, 5)", x.joined(0, 5), 31);
        Check.yes("undo()", x.undo());
        Check.same("joined(0, 5)", x.joined(0, 5), 0);
    }

    // Promise 8: "IndexOutOfBoundsException, when there is no such placement, or it is gone, or no such name."
    private static void joinOfNoSuchPlacementOrName() {
        Refusals r = Refusals.in("seven placements, one gone", Scenes::workshop);
        for (int n : Scenes.outside(7)) {
            r.noIndex("join(" + n + ", 5, 0)", x -> x.join(n, 5, 0));
        }
        for (int n : Scenes.outside(32)) {
            r.noIndex("join(0, " + n + ", 0)", x -> x.join(0, n, 0));
            r.noIndex("join(0, 5, " + n + ")", x -> x.join(0, 5, n));
            r.noIndex("join(0, 9, " + n + "), the first not told", x -> x.join(0, 9, n));
        }
        r.noIndex("join(6, 5, 0), which is gone", x -> x.join(6, 5, 0)).changeNothing();
    }

    // Promise 9: "NONE without."
    private static void joinedNoneWithout() {
        Refusals.in("joints", Scenes::workshop)
                .none("a name that is told", x -> x.joined(2, 7))
                .none("a name that is not", x -> x.joined(0, 0))
                .none("another placement of the sheet", x -> x.joined(4, 5))
                .none("what a move lost", x -> x.joined(1, 7))
                .changeNothing();
        SheetTrees x = Scenes.workshop();
        Check.same("with 0", x.joined(0, 5), 0);
        Check.same("with 31", x.joined(0, 31), 31);
    }

    // Promise 9: "NONE without.", for placements that are new
    private static void joinedNoneWhenNew() {
        SheetTrees x = Scenes.sheets(3);
        x.place(0, 1);
        x.place(2, 1);
        for (int s = 0; s < 3; s++) {
            x.port(s, 0);
        }
        x.join(1, 0, 0);
        Check.same("a copy of what joins nothing", x.copy(0), 3);
        Check.none("joined(2, 0)", x.joined(2, 0));
        Check.same("a new placement", x.place(0, 1), 3);
        Check.none("joined(3, 0)", x.joined(3, 0));
        Check.yes("join(3, 0, 0)", x.join(3, 0, 0));
        x.undo();
        x.undo();
        Check.same("the same number again", x.place(2, 1), 3);
        Check.none("joined(3, 0)", x.joined(3, 0));
    }

    // Promise 9: "IndexOutOfBoundsException likewise."
    private static void joinedOfNoSuchPlacementOrName() {
        Refusals r = Refusals.in("seven placements, one gone", Scenes::workshop);
        for (int n : Scenes.outside(7)) {
            r.noIndex("joined(" + n + ", 5)", x -> x.joined(n, 5));
        }
        for (int n : Scenes.outside(32)) {
            r.noIndex("joined(0, " + n + ")", x -> x.joined(0, n));
            r.noIndex("joined(2, " + n + ")", x -> x.joined(2, n));
        }
        r.noIndex("joined(6, 5), which is gone", x -> x.joined(6, 5)).changeNothing();
    }

    // Promise 20: "How many pages there are."
    private static void pagesFrom1To300() {
        Check.same("the least", new SheetTrees().pages(), 1);
        Check.same("the most", Scenes.fullOfPages().pages(), 300);
        SheetTrees x = chainBesideTheRoot();
        Check.same("what does not come to the root is none", x.pages(), 1);
    }

    // Promise 21: "its placement (1; NONE for the root), the page on which that is (2; NONE likewise)"
    private static void pageOfTheRoot() {
        SheetTrees x = Scenes.fullOfPages();
        int[][] due = {{0, 0, -1, -1, 0}, {1, 1, 12, 0, 1}, {2, 2, 0, 1, 2}, {287, 1, 34, 0, 1}, {299, 2, 11, 287, 2}};
        for (int[] d : due) {
            for (int what = 0; what < 4; what++) {
                Check.same("page(" + d[0] + ", " + what + ")", x.page(d[0], what), d[what + 1]);
            }
        }
        SheetTrees y = chainBesideTheRoot();
        Check.none("the root placed elsewhere has no placement", y.page(0, 1));
    }

    // Promise 21: "IndexOutOfBoundsException, when there is no such page, or what."
    private static void pageOfNoSuchPageOrThing() {
        Refusals r = Refusals.in("13 pages", Scenes::workshop);
        for (int n : Scenes.outside(13)) {
            r.noIndex("page(" + n + ", 0)", x -> x.page(n, 0));
        }
        for (int n : Scenes.outside(4)) {
            r.noIndex("page(12, " + n + ")", x -> x.page(12, n));
        }
        r.changeNothing();
        Refusals r2 = Refusals.in("300 pages", Scenes::fullOfPages);
        for (int n : Scenes.outside(300)) {
            r2.noIndex("page(" + n + ", 3)", x -> x.page(n, 3));
        }
        r2.changeNothing();
        SheetTrees y = Scenes.workshop();
        y.remove(0);
        Check.noIndex("a page that is there no more", () -> y.page(7, 0));
    }
}
