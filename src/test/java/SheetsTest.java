/** Promises 1 to 9, 20 and 21: sheets, placements, names, what is joined, and the pages. */
public final class SheetsTest {

    public static void main(String[] args) {
        newObject();
        sheetsAndTheirLimit();
        placing();
        placementsAndTheirLimit();
        noSheetLiesInItself();
        pagesAndTheirLimit();
        pagesOfSheetsThatComeToNothing();
        pagesInOrder();
        deepestPath();
        removing();
        moving();
        movesThatAreRefused();
        movesAtThePageLimit();
        whatMovesLose();
        whatIsToldStays();
        names();
        joints();
        Check.end();
    }

    private static SheetTrees withSheets(int count) {
        SheetTrees x = new SheetTrees();
        for (int s = 1; s < count; s++) {
            Check.same("sheet()", x.sheet(), s);
        }
        return x;
    }

    private static void pageIs(SheetTrees x, int page, int sheet, int placement, int above, int depth) {
        Check.same("page(" + page + ", 0)", x.page(page, 0), sheet);
        Check.same("page(" + page + ", 1)", x.page(page, 1), placement);
        Check.same("page(" + page + ", 2)", x.page(page, 2), above);
        Check.same("page(" + page + ", 3)", x.page(page, 3), depth);
    }

    private static void newObject() {
        SheetTrees x = new SheetTrees();
        Check.same("pages of a new object", x.pages(), 1);
        pageIs(x, 0, 0, -1, -1, 0);
        Check.no("undo() on a new object", x.undo());
        Check.none("told(0) on a new object", x.told(0));
        Check.noIndex("placement 0", () -> x.remove(0));
        Check.noIndex("part 0", () -> x.units(0));
        Check.noIndex("variant 0", () -> x.variant(0));
        Check.noIndex("sheet 1", () -> x.port(1, 0));
        Check.yes("the root has no names", x.port(0, 0));
        Check.no("rule 0 is there at first", x.rule(0));
    }

    private static void sheetsAndTheirLimit() {
        SheetTrees x = withSheets(24);
        Check.none("the 25th sheet", x.sheet());
        Check.none("a copy as the 25th sheet", x.copy(0));
        Check.same("sheets are placed nowhere", x.pages(), 1);
        Check.yes("undo() of the 24th sheet, not of what answered NONE", x.undo());
        Check.noIndex("sheet 23 behind undo()", () -> x.port(23, 0));
        Check.same("the 24th sheet again", x.sheet(), 23);
        Check.none("the 25th sheet again", x.sheet());
    }

    private static void placing() {
        SheetTrees x = withSheets(3);
        Check.noIndex("place(3, 1)", () -> x.place(3, 1));
        Check.noIndex("place(1, 3)", () -> x.place(1, 3));
        Check.noIndex("place(-1, 1)", () -> x.place(-1, 1));
        Check.noIndex("place(1, -1)", () -> x.place(1, -1));
        Check.noIndex("place(MIN, MAX)", () -> x.place(Integer.MIN_VALUE, Integer.MAX_VALUE));
        Check.same("place(0, 1)", x.place(0, 1), 0);
        Check.same("place(0, 1) once more", x.place(0, 1), 1);
        Check.same("place(1, 2)", x.place(1, 2), 2);
        Check.same("pages", x.pages(), 5);
    }

    private static void placementsAndTheirLimit() {
        SheetTrees x = withSheets(3);
        for (int p = 0; p < 60; p++) {
            Check.same("place(0, 1)", x.place(0, 1), p);
            Check.yes("remove", x.remove(p));
        }
        Check.none("the 61st, though all are gone", x.place(0, 1));
        Check.noIndex("a wrong sheet comes before the limit", () -> x.place(0, 3));
        Check.none("place(1, 1) at the limit", x.place(1, 1));
        Check.same("a copy without placements", x.copy(0), 3);
        Check.yes("undo() of the copy", x.undo());
        Check.yes("undo() of the last remove()", x.undo());
        Check.none("a copy that needs one more placement", x.copy(0));
        Check.yes("undo() of the last place()", x.undo());
        Check.same("the 60th again", x.place(0, 2), 59);
    }

    private static void noSheetLiesInItself() {
        SheetTrees x = withSheets(5);
        Check.none("place(0, 0)", x.place(0, 0));
        Check.none("place(1, 1)", x.place(1, 1));
        Check.same("place(1, 2), not come to the root", x.place(1, 2), 0);
        Check.same("place(2, 3)", x.place(2, 3), 1);
        Check.none("place(2, 1)", x.place(2, 1));
        Check.none("place(3, 1)", x.place(3, 1));
        Check.same("place(1, 3)", x.place(1, 3), 2);
        Check.same("the root on a sheet", x.place(3, 0), 3);
        Check.none("the sheet on the root then", x.place(0, 3));
        Check.none("a sheet in which that lies, too", x.place(0, 1));
        Check.same("another one", x.place(0, 4), 4);
        Check.same("pages", x.pages(), 2);
        Check.yes("remove", x.remove(3));
        Check.same("the sheet on the root now", x.place(0, 3), 5);
    }

    private static void pagesAndTheirLimit() {
        SheetTrees x = withSheets(6);
        for (int i = 0; i < 12; i++) {
            x.place(1, 2);
        }
        for (int i = 0; i < 23; i++) {
            Check.same("place(0, 1)", x.place(0, 1), 12 + i);
        }
        Check.same("1 + 23 * 13 pages", x.pages(), 300);
        Check.none("place(0, 1) to 313 pages", x.place(0, 1));
        Check.none("place(0, 3) to 301 pages", x.place(0, 3));
        Check.none("place(2, 3) to far more", x.place(2, 3));
        Check.same("pages", x.pages(), 300);
        pageIs(x, 299, 2, 11, 287, 2);
        Check.noIndex("page 300", () -> x.page(300, 0));
        Check.same("where no page is", x.place(3, 4), 35);
        Check.yes("undo() of that", x.undo());
        Check.yes("undo() of the last place(0, 1)", x.undo());
        Check.same("pages", x.pages(), 287);
        for (int i = 0; i < 13; i++) {
            Check.same("place(0, 3)", x.place(0, 3), 34 + i);
        }
        Check.same("pages", x.pages(), 300);
        Check.none("place(0, 3) to 301 pages", x.place(0, 3));
    }

    private static void pagesOfSheetsThatComeToNothing() {
        SheetTrees x = withSheets(24);
        int made = 0;
        for (int s = 1; s < 23; s++) {
            for (int i = 0; i < (s < 15 ? 3 : 2); i++) {
                Check.same("place", x.place(s, s + 1), made++);
            }
        }
        Check.same("pages", x.pages(), 1);
        Check.none("a sheet of billions of pages on the root", x.place(0, 1));
        Check.same("its last", x.place(0, 23), made++);
        Check.none("3 to 300 come with it", x.place(0, 15));
        Check.same("2^7 - 1 come with it", x.place(0, 17), made++);
        Check.same("pages", x.pages(), 129);
    }

    private static void pagesInOrder() {
        SheetTrees x = withSheets(4);
        x.place(2, 3);
        x.place(0, 1);
        x.place(0, 2);
        x.place(1, 2);
        x.place(1, 3);
        x.place(0, 1);
        Check.same("pages", x.pages(), 11);
        pageIs(x, 0, 0, -1, -1, 0);
        pageIs(x, 1, 1, 1, 0, 1);
        pageIs(x, 2, 2, 3, 1, 2);
        pageIs(x, 3, 3, 0, 2, 3);
        pageIs(x, 4, 3, 4, 1, 2);
        pageIs(x, 5, 2, 2, 0, 1);
        pageIs(x, 6, 3, 0, 5, 2);
        pageIs(x, 7, 1, 5, 0, 1);
        pageIs(x, 8, 2, 3, 7, 2);
        pageIs(x, 9, 3, 0, 8, 3);
        pageIs(x, 10, 3, 4, 7, 2);
        Check.noIndex("page(11, 0)", () -> x.page(11, 0));
        Check.noIndex("page(-1, 0)", () -> x.page(-1, 0));
        Check.noIndex("page(0, 4)", () -> x.page(0, 4));
        Check.noIndex("page(0, -1)", () -> x.page(0, -1));
        Check.noIndex("page(MAX, MAX)", () -> x.page(Integer.MAX_VALUE, Integer.MAX_VALUE));
    }

    private static void deepestPath() {
        SheetTrees x = withSheets(24);
        for (int s = 22; s >= 0; s--) {
            x.place(s, s + 1);
        }
        x.place(0, 23);
        Check.same("pages", x.pages(), 25);
        pageIs(x, 23, 23, 0, 22, 23);
        pageIs(x, 24, 23, 23, 0, 1);
        x.variant(-1);
        x.part(0, 1);
        Check.yes("told at the deepest page", x.value(0, 23, 0, 7));
        Check.same("valueOf there", x.valueOf(0, 23, 0), 7);
        Check.same("valueOf above it", x.valueOf(0, 22, 0), 0);
        Check.none("place(23, 0)", x.place(23, 0));
    }

    private static void removing() {
        SheetTrees x = withSheets(3);
        x.place(0, 1);
        x.place(1, 2);
        x.place(0, 1);
        Check.noIndex("remove(3)", () -> x.remove(3));
        Check.noIndex("remove(-1)", () -> x.remove(-1));
        Check.yes("remove(0)", x.remove(0));
        Check.same("pages", x.pages(), 3);
        pageIs(x, 1, 1, 2, 0, 1);
        Check.noIndex("remove(0) again", () -> x.remove(0));
        Check.noIndex("move(0, 0)", () -> x.move(0, 0));
        Check.noIndex("join(0, 0, 0)", () -> x.join(0, 0, 0));
        Check.noIndex("joined(0, 0)", () -> x.joined(0, 0));
        Check.yes("remove(1)", x.remove(1));
        Check.yes("remove(2)", x.remove(2));
        Check.same("pages", x.pages(), 1);
        Check.same("a number is not used again", x.place(0, 1), 3);
    }

    private static void moving() {
        SheetTrees x = withSheets(4);
        x.place(0, 1);
        x.place(0, 2);
        x.place(0, 3);
        Check.yes("to the end of its own parent", x.move(0, 0));
        pageIs(x, 1, 2, 1, 0, 1);
        pageIs(x, 2, 3, 2, 0, 1);
        pageIs(x, 3, 1, 0, 0, 1);
        Check.yes("the last one to the end", x.move(0, 0));
        pageIs(x, 3, 1, 0, 0, 1);
        Check.yes("to another parent", x.move(2, 1));
        Check.yes("behind what is there", x.move(1, 1));
        pageIs(x, 1, 1, 0, 0, 1);
        pageIs(x, 2, 3, 2, 1, 2);
        pageIs(x, 3, 2, 1, 1, 2);
        Check.yes("to a sheet that is placed nowhere", x.remove(0));
        Check.yes("move(1, 3)", x.move(1, 3));
        Check.same("pages", x.pages(), 1);
        Check.yes("move(1, 0)", x.move(1, 0));
        Check.same("pages", x.pages(), 2);
        Check.yes("undo()", x.undo());
        Check.yes("undo()", x.undo());
        Check.yes("undo()", x.undo());
        pageIs(x, 3, 2, 1, 1, 2);
        Check.yes("undo()", x.undo());
        pageIs(x, 1, 2, 1, 0, 1);
    }

    private static void movesThatAreRefused() {
        SheetTrees x = withSheets(4);
        x.place(0, 1);
        x.place(1, 2);
        x.place(2, 3);
        Check.no("onto its own sheet", x.move(0, 1));
        Check.no("onto a sheet that lies in it", x.move(0, 3));
        Check.no("onto its own sheet", x.move(2, 3));
        Check.noIndex("move(3, 0)", () -> x.move(3, 0));
        Check.noIndex("move(-1, 0)", () -> x.move(-1, 0));
        Check.noIndex("move(0, 4)", () -> x.move(0, 4));
        Check.noIndex("move(0, -1)", () -> x.move(0, -1));
        pageIs(x, 3, 3, 2, 2, 3);
        Check.yes("undo() of the last place()", x.undo());
        Check.same("pages", x.pages(), 3);
    }

    private static void movesAtThePageLimit() {
        SheetTrees x = withSheets(5);
        for (int i = 0; i < 13; i++) {
            x.place(0, 1);
        }
        for (int i = 0; i < 21; i++) {
            x.place(1, 2);
        }
        int spare = x.place(3, 4);
        Check.same("1 + 13 * 22 pages", x.pages(), 287);
        Check.yes("to 300 pages", x.move(spare, 1));
        Check.same("pages", x.pages(), 300);
        Check.yes("back", x.move(spare, 3));
        int other = x.place(0, 4);
        Check.same("pages", x.pages(), 288);
        Check.yes("one less, 13 more", x.move(other, 1));
        Check.same("pages", x.pages(), 300);
        Check.yes("to its own parent with 300", x.move(other, 1));
        Check.no("to far more", x.move(other, 2));
        Check.no("13 more", x.move(spare, 1));
        Check.no("1 more", x.move(spare, 0));
        Check.same("pages", x.pages(), 300);
        Check.yes("undo() of the last move that was done", x.undo());
        Check.yes("undo() of the one before", x.undo());
        Check.same("pages", x.pages(), 288);
    }

    private static void whatMovesLose() {
        SheetTrees x = withSheets(3);
        x.place(0, 1);
        x.place(0, 2);
        for (int name = 0; name < 32; name++) {
            Check.yes("port(1)", x.port(1, name));
            Check.yes("port(0)", x.port(0, name));
        }
        for (int name = 0; name < 32; name++) {
            Check.yes("join", x.join(0, name, 31 - name));
        }
        Check.none("nothing is told before a move", x.told(0));
        x.port(2, 31);
        x.port(2, 4);
        Check.yes("move(0, 2)", x.move(0, 2));
        int k = 0;
        for (int name = 0; name < 32; name++) {
            boolean kept = name == 0 || name == 27;
            Check.same("joined(0, " + name + ")", x.joined(0, name), kept ? 31 - name : -1);
            if (!kept) {
                Check.same("told(" + k + ")", x.told(k), name);
                k++;
            }
        }
        Check.none("told(30)", x.told(30));
        Check.none("told(-1)", x.told(-1));
        Check.none("told(MIN)", x.told(Integer.MIN_VALUE));
        Check.none("told(MAX)", x.told(Integer.MAX_VALUE));
        Check.yes("back", x.move(0, 0));
        Check.none("a move that lost nothing tells nothing", x.told(0));
        Check.none("and brings nothing back", x.joined(0, 1));
        Check.yes("undo()", x.undo());
        Check.none("nothing is told behind undo()", x.told(0));
        Check.none("the move before is still done", x.joined(0, 1));
        Check.yes("undo()", x.undo());
        Check.same("its joints are back", x.joined(0, 1), 30);
        Check.yes("the same move again", x.move(0, 2));
        Check.same("told(0)", x.told(0), 1);
        Check.same("told(29)", x.told(29), 31);
    }

    private static void whatIsToldStays() {
        SheetTrees x = withSheets(3);
        x.place(0, 1);
        x.place(0, 2);
        x.port(0, 9);
        x.port(1, 8);
        x.join(0, 8, 9);
        Check.yes("move(0, 2)", x.move(0, 2));
        Check.no("a move that is refused", x.move(1, 1));
        Check.noIndex("a move of nothing", () -> x.move(7, 1));
        Check.same("told(0)", x.told(0), 8);
        x.sheet();
        x.remove(0);
        x.copy(0);
        Check.same("told(0) behind other acts", x.told(0), 8);
        Check.yes("undo() of another act", x.undo());
        Check.none("told(0) behind that", x.told(0));
    }

    private static void names() {
        SheetTrees x = withSheets(2);
        Check.yes("port(1, 0)", x.port(1, 0));
        Check.no("port(1, 0) again", x.port(1, 0));
        Check.yes("port(1, 31)", x.port(1, 31));
        Check.no("port(1, 31) again", x.port(1, 31));
        Check.yes("port(0, 0) on another sheet", x.port(0, 0));
        Check.noIndex("port(1, 32)", () -> x.port(1, 32));
        Check.noIndex("port(1, -1)", () -> x.port(1, -1));
        Check.noIndex("port(2, 0)", () -> x.port(2, 0));
        Check.noIndex("port(-1, 0)", () -> x.port(-1, 0));
        Check.yes("undo() of port(0, 0)", x.undo());
        Check.yes("port(0, 0) again", x.port(0, 0));
    }

    private static void joints() {
        SheetTrees x = withSheets(2);
        x.place(0, 1);
        x.place(0, 1);
        x.port(1, 3);
        x.port(1, 4);
        Check.no("the outer one is not told", x.join(0, 3, 5));
        x.port(0, 5);
        x.port(0, 6);
        Check.no("the inner one is not told", x.join(0, 5, 5));
        Check.none("joined(0, 3) without", x.joined(0, 3));
        Check.yes("join(0, 3, 5)", x.join(0, 3, 5));
        Check.no("join(0, 3, 5) again", x.join(0, 3, 5));
        Check.yes("another name to the same one", x.join(0, 4, 5));
        Check.yes("to another one", x.join(0, 3, 6));
        Check.same("joined(0, 3)", x.joined(0, 3), 6);
        Check.same("joined(0, 4)", x.joined(0, 4), 5);
        Check.none("another placement of the sheet", x.joined(1, 3));
        Check.none("a name that is not told", x.joined(0, 0));
        Check.noIndex("join(0, 32, 5)", () -> x.join(0, 32, 5));
        Check.noIndex("join(0, -1, 5)", () -> x.join(0, -1, 5));
        Check.noIndex("join(0, 3, 32)", () -> x.join(0, 3, 32));
        Check.noIndex("join(0, 3, -1)", () -> x.join(0, 3, -1));
        Check.noIndex("join(2, 3, 5)", () -> x.join(2, 3, 5));
        Check.noIndex("join(-1, 3, 5)", () -> x.join(-1, 3, 5));
        Check.noIndex("joined(0, 32)", () -> x.joined(0, 32));
        Check.noIndex("joined(0, -1)", () -> x.joined(0, -1));
        Check.noIndex("joined(2, 3)", () -> x.joined(2, 3));
        Check.noIndex("joined(-1, 3)", () -> x.joined(-1, 3));
        Check.yes("undo()", x.undo());
        Check.same("joined(0, 3)", x.joined(0, 3), 5);
        Check.yes("remove(0)", x.remove(0));
        Check.yes("undo()", x.undo());
        Check.same("what it joined is back", x.joined(0, 4), 5);
    }
}
