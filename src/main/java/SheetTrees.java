import java.util.Arrays;

/** Sheets placed in one another, their parts, pages and variants, with acts that can be undone. */
public final class SheetTrees {

    public static final int NONE = -1;

    private static final int MOST_SHEETS = 24;
    private static final int MOST_PLACEMENTS = 60;
    private static final int MOST_PAGES = 300;
    private static final int MOST_NAMES = 32;
    private static final int MOST_PARTS = 30;
    private static final int MOST_LETTERS = 26;
    private static final int MOST_GATES = 8;
    private static final int MOST_GATES_ON_SHEET = 20;
    private static final int MOST_VARIANTS = 10;
    private static final int MOST_TELLINGS = 40;
    private static final int MOST_ACTS = 50;

    /** No sheet lies in itself, so a path meets every sheet but the root at most once. */
    private static final int LONGEST_PATH = MOST_SHEETS - 1;

    private static final int ROOT = 0;
    private static final int RULE_BY_PAGE = 1;
    private static final int LETTER_STEP = 10000;
    private static final int PAGE_STEP = 100;

    private static final int KIND_VALUE = 0;
    private static final int KIND_FIT = 1;

    private final Journal journal;
    private final Sheets sheets;
    private final Book book;
    private final Parts parts;
    private final Variants variants;
    private final Row numbering;

    /** A set of names, one bit each. It is no part of what undo() brings back. */
    private int lostNames;

    public SheetTrees() {
        journal = new Journal();
        sheets = new Sheets(journal);
        book = new Book(sheets);
        parts = new Parts(journal, book);
        variants = new Variants(journal, book);
        numbering = new Row(journal, 1, 0);
        lostNames = 0;
        book.lay();
    }

    public int sheet() {
        if (sheets.sheetCount() >= MOST_SHEETS) {
            return NONE;
        }
        int made = sheets.addSheet();
        journal.keep();
        return made;
    }

    public int place(int parent, int sheet) throws IndexOutOfBoundsException {
        needSheet(parent);
        needSheet(sheet);
        if (sheets.placementsLeft() < 1 || sheets.holds(sheet, parent)) {
            return NONE;
        }
        int made = sheets.addPlacement(parent, sheet);
        return settle() ? made : NONE;
    }

    public boolean remove(int placement) throws IndexOutOfBoundsException {
        needPlacement(placement);
        sheets.takeAway(placement);
        return settle();
    }

    public boolean move(int placement, int parent) throws IndexOutOfBoundsException {
        needPlacement(placement);
        needSheet(parent);
        if (sheets.holds(sheets.sheetOf(placement), parent)) {
            return false;
        }
        int lost = sheets.bringTo(placement, parent);
        if (!settle()) {
            return false;
        }
        lostNames = lost;
        return true;
    }

    public int told(int k) {
        int left = k;
        for (int name = 0; name < MOST_NAMES && left >= 0; name++) {
            if (holdsName(lostNames, name)) {
                if (left == 0) {
                    return name;
                }
                left--;
            }
        }
        return NONE;
    }

    public boolean port(int sheet, int name) throws IndexOutOfBoundsException {
        needSheet(sheet);
        needName(name);
        if (sheets.tells(sheet, name)) {
            return false;
        }
        sheets.addName(sheet, name);
        journal.keep();
        return true;
    }

    public boolean join(int placement, int name, int outer) throws IndexOutOfBoundsException {
        needPlacement(placement);
        needName(name);
        needName(outer);
        if (!sheets.tells(sheets.sheetOf(placement), name)
                || !sheets.tells(sheets.parentOf(placement), outer)
                || sheets.jointOf(placement, name) == outer) {
            return false;
        }
        sheets.setJoint(placement, name, outer);
        journal.keep();
        return true;
    }

    public int joined(int placement, int name) throws IndexOutOfBoundsException {
        needPlacement(placement);
        needName(name);
        return sheets.jointOf(placement, name);
    }

    public int part(int letter, int gates) throws IllegalArgumentException {
        if (letter < 0 || letter >= MOST_LETTERS || gates < 1 || gates > MOST_GATES) {
            throw new IllegalArgumentException("no such letter, or number of gates");
        }
        if (parts.partsLeft() < 1) {
            return NONE;
        }
        int made = parts.addPart(letter, gates);
        journal.keep();
        return made;
    }

    public boolean gate(int sheet, int part, int gate) throws IndexOutOfBoundsException {
        needSheet(sheet);
        needPart(part);
        needGate(part, gate);
        if (parts.sheetOfGate(part, gate) != NONE || parts.gatesOn(sheet) >= MOST_GATES_ON_SHEET) {
            return false;
        }
        parts.layGate(sheet, part, gate);
        journal.keep();
        return true;
    }

    public int copy(int sheet) throws IndexOutOfBoundsException {
        needSheet(sheet);
        if (sheets.sheetCount() >= MOST_SHEETS
                || sheets.placementsLeft() < sheets.placementsOn(sheet)
                || parts.partsLeft() < parts.partsOn(sheet)) {
            return NONE;
        }
        int made = sheets.addSheetLike(sheet);
        parts.addPartsLike(sheet, made);
        journal.keep();
        return made;
    }

    public boolean rule(int how) throws IllegalArgumentException {
        if (how != 0 && how != RULE_BY_PAGE) {
            throw new IllegalArgumentException("no such rule");
        }
        if (numbering.at(0) == how) {
            return false;
        }
        numbering.set(0, how);
        journal.keep();
        return true;
    }

    public int variant(int above) throws IndexOutOfBoundsException {
        needVariantOrNone(above);
        if (variants.count() >= MOST_VARIANTS) {
            return NONE;
        }
        int made = variants.addVariant(above);
        journal.keep();
        return made;
    }

    public boolean value(int variant, int page, int part, long v) throws IndexOutOfBoundsException {
        return tell(KIND_VALUE, variant, page, part, v);
    }

    public boolean fit(int variant, int page, int part, boolean on) throws IndexOutOfBoundsException {
        return tell(KIND_FIT, variant, page, part, on ? 1 : 0);
    }

    public long valueOf(int variant, int page, int part) throws IndexOutOfBoundsException {
        return heard(KIND_VALUE, variant, page, part, 0);
    }

    public boolean fitted(int variant, int page, int part) throws IndexOutOfBoundsException {
        return heard(KIND_FIT, variant, page, part, 1) == 1;
    }

    public boolean undo() {
        if (!journal.stepBack()) {
            return false;
        }
        lostNames = 0;
        book.lay();
        return true;
    }

    public int pages() {
        return book.count();
    }

    public int page(int page, int what) throws IndexOutOfBoundsException {
        needPage(page);
        switch (what) {
            case 0:
                return book.sheetAt(page);
            case 1:
                return book.placementAt(page);
            case 2:
                return book.pageAbove(page);
            case 3:
                return book.depthAt(page);
            default:
                throw new IndexOutOfBoundsException("a page has no such thing");
        }
    }

    public int units(int part) throws IndexOutOfBoundsException {
        needPart(part);
        return parts.unitCount(part);
    }

    public int where(int part, int unit, int gate) throws IndexOutOfBoundsException {
        needPart(part);
        needUnit(part, unit);
        needGate(part, gate);
        return book.pageOfComing(parts.sheetOfGate(part, gate), unit);
    }

    public int name(int part, int unit) throws IndexOutOfBoundsException {
        needPart(part);
        needUnit(part, unit);
        int number = parts.numberOf(part, unit, numbering.at(0) == RULE_BY_PAGE);
        return parts.letterOf(part) * LETTER_STEP + number;
    }

    /** Only the laid pages show whether they are too many, so a change is made first and then kept or not. */
    private boolean settle() {
        book.lay();
        if (book.isWithinLimit()) {
            journal.keep();
            return true;
        }
        journal.takeBack();
        book.lay();
        return false;
    }

    private boolean tell(int kind, int variant, int page, int part, long v) {
        needVariant(variant);
        needPage(page);
        needPart(part);
        if (!variants.tell(kind, variant, page, part, v)) {
            return false;
        }
        journal.keep();
        return true;
    }

    private long heard(int kind, int variant, int page, int part, long without) {
        needVariantOrNone(variant);
        needPage(page);
        needPart(part);
        int telling = variants.nearest(kind, variant, page, part);
        return telling == NONE ? without : variants.content(telling);
    }

    private void needSheet(int sheet) {
        if (!sheets.isSheet(sheet)) {
            throw new IndexOutOfBoundsException("no such sheet");
        }
    }

    private void needPlacement(int placement) {
        if (!sheets.isPlacement(placement)) {
            throw new IndexOutOfBoundsException("no such placement, or it is gone");
        }
    }

    private void needName(int name) {
        if (name < 0 || name >= MOST_NAMES) {
            throw new IndexOutOfBoundsException("no such name");
        }
    }

    private void needPart(int part) {
        if (!parts.isPart(part)) {
            throw new IndexOutOfBoundsException("no such part");
        }
    }

    private void needGate(int part, int gate) {
        if (gate < 0 || gate >= parts.gateCount(part)) {
            throw new IndexOutOfBoundsException("no such gate");
        }
    }

    private void needUnit(int part, int unit) {
        if (unit < 0 || unit >= parts.unitCount(part)) {
            throw new IndexOutOfBoundsException("no such unit");
        }
    }

    private void needVariant(int variant) {
        if (!variants.isVariant(variant)) {
            throw new IndexOutOfBoundsException("no such variant");
        }
    }

    private void needVariantOrNone(int variant) {
        if (variant != NONE) {
            needVariant(variant);
        }
    }

    private void needPage(int page) {
        if (page < 0 || page >= book.count()) {
            throw new IndexOutOfBoundsException("no such page");
        }
    }

    private static boolean holdsName(int names, int name) {
        return (names & (1 << name)) != 0;
    }

    /** What is outside a row reads as NONE, so that no index is ever used untested. */
    private static int read(int[] row, int index) {
        return index >= 0 && index < row.length ? row[index] : NONE;
    }

    private static void write(int[] row, int index, int v) {
        if (index >= 0 && index < row.length) {
            row[index] = v;
        }
    }

    /** What one cell held before it was changed, and the change before that in the same act. */
    private static final class Change {
        private Row row;
        private int index;
        private long old;
        private Change before;

        void fill(Row row, int index, long old, Change before) {
            this.row = row;
            this.index = index;
            this.old = old;
            this.before = before;
        }

        void takeBack() {
            if (row != null) {
                row.restore(index, old);
            }
        }
    }

    /** The acts that can be undone: a ring, so that the oldest one falls out for a new one. */
    private static final class Journal {
        private final Change[] acts = new Change[MOST_ACTS];
        private int count;
        private int next;
        private Change open;

        /** Changes to be filled anew: copies undone again and again note far more than is ever kept at once. */
        private Change spare;

        void note(Row row, int index, long old) {
            Change noted = spare;
            if (noted == null) {
                noted = new Change();
            } else {
                spare = noted.before;
            }
            noted.fill(row, index, old, open);
            open = noted;
        }

        void keep() {
            setFree(getAct(next));
            putAct(next, open);
            open = null;
            next = (next + 1) % MOST_ACTS;
            count = Math.min(count + 1, MOST_ACTS);
        }

        void takeBack() {
            for (Change c = open; c != null; c = c.before) {
                c.takeBack();
            }
            setFree(open);
            open = null;
        }

        private void setFree(Change act) {
            Change oldest = act;
            for (Change c = act; c != null; c = c.before) {
                oldest = c;
            }
            if (oldest != null) {
                oldest.before = spare;
                spare = act;
            }
        }

        boolean stepBack() {
            if (count == 0) {
                return false;
            }
            count--;
            next = (next + MOST_ACTS - 1) % MOST_ACTS;
            open = getAct(next);
            putAct(next, null);
            takeBack();
            return true;
        }

        private Change getAct(int index) {
            return index >= 0 && index < acts.length ? acts[index] : null;
        }

        private void putAct(int index, Change act) {
            if (index >= 0 && index < acts.length) {
                acts[index] = act;
            }
        }
    }

    /** Cells whose changes the journal can take back: all that an act may change is held in rows. */
    private static final class Row {
        private final Journal journal;
        private final long[] cells;

        Row(Journal journal, int length, long start) {
            this.journal = journal;
            this.cells = new long[Math.max(length, 0)];
            Arrays.fill(this.cells, start);
        }

        /** What is outside the row reads as NONE, so that no index is ever used untested. */
        long longAt(int index) {
            return index >= 0 && index < cells.length ? cells[index] : NONE;
        }

        int at(int index) {
            return index >= 0 && index < cells.length ? (int) cells[index] : NONE;
        }

        void set(int index, long v) {
            long old = longAt(index);
            if (old != v) {
                journal.note(this, index, old);
                restore(index, v);
            }
        }

        void restore(int index, long v) {
            if (index >= 0 && index < cells.length) {
                cells[index] = v;
            }
        }
    }

    /** The sheets with their names, and the placements with what they join. */
    private static final class Sheets {
        private static final int SHEET_COUNT = 0;
        private static final int PLACEMENT_COUNT = 1;

        private final Row counts;
        private final Row nameSets;
        private final Row shown;
        private final Row parents;

        /** The placement behind each one on its parent; the cell behind all of those of a sheet leads to its first. */
        private final Row following;
        private final Row joints;

        Sheets(Journal journal) {
            counts = new Row(journal, 2, 0);
            nameSets = new Row(journal, MOST_SHEETS, 0);
            shown = new Row(journal, MOST_PLACEMENTS, NONE);
            parents = new Row(journal, MOST_PLACEMENTS, NONE);
            following = new Row(journal, MOST_PLACEMENTS + MOST_SHEETS, NONE);
            joints = new Row(journal, MOST_PLACEMENTS * MOST_NAMES, NONE);
            counts.restore(SHEET_COUNT, 1);
        }

        int sheetCount() {
            return counts.at(SHEET_COUNT);
        }

        int placementsLeft() {
            return MOST_PLACEMENTS - counts.at(PLACEMENT_COUNT);
        }

        boolean isSheet(int sheet) {
            return sheet >= 0 && sheet < sheetCount();
        }

        boolean isPlacement(int placement) {
            return parentOf(placement) != NONE;
        }

        int sheetOf(int placement) {
            return shown.at(placement);
        }

        /** NONE also for a placement that is gone, or never was. */
        int parentOf(int placement) {
            return parents.at(placement);
        }

        int firstOn(int sheet) {
            return following.at(headOf(sheet));
        }

        int nextOf(int placement) {
            return following.at(placement);
        }

        int placementsOn(int sheet) {
            int count = 0;
            for (int p = firstOn(sheet); p != NONE && count < MOST_PLACEMENTS; p = nextOf(p)) {
                count++;
            }
            return count;
        }

        /** Whether a sheet is another one, or that one lies in it. */
        boolean holds(int sheet, int other) {
            int below = 1 << sheet;
            int before = 0;
            for (int round = 0; round < MOST_SHEETS && below != before; round++) {
                before = below;
                below = withPlacedOn(below);
            }
            return (below & (1 << other)) != 0;
        }

        private int withPlacedOn(int sheetSet) {
            int grown = sheetSet;
            for (int p = 0; p < MOST_PLACEMENTS; p++) {
                if (isPlacement(p) && (grown & (1 << parentOf(p))) != 0) {
                    grown |= 1 << sheetOf(p);
                }
            }
            return grown;
        }

        int addSheet() {
            int made = sheetCount();
            counts.set(SHEET_COUNT, made + 1);
            return made;
        }

        int addSheetLike(int sheet) {
            int made = addSheet();
            nameSets.set(made, nameSets.at(sheet));
            int p = firstOn(sheet);
            for (int n = 0; n < MOST_PLACEMENTS && p != NONE; n++) {
                copyJoints(p, addPlacement(made, sheetOf(p)));
                p = nextOf(p);
            }
            return made;
        }

        private void copyJoints(int from, int to) {
            for (int name = 0; name < MOST_NAMES; name++) {
                setJoint(to, name, jointOf(from, name));
            }
        }

        int addPlacement(int parent, int sheet) {
            int made = counts.at(PLACEMENT_COUNT);
            counts.set(PLACEMENT_COUNT, made + 1);
            shown.set(made, sheet);
            append(made, parent);
            return made;
        }

        /** Its joints can stay in their cells: no one can ask for them, and undo() wants them back. */
        void takeAway(int placement) {
            unlink(placement);
            parents.set(placement, NONE);
        }

        /** Answers the set of the names whose joints it lost. */
        int bringTo(int placement, int parent) {
            unlink(placement);
            append(placement, parent);
            int lost = 0;
            for (int name = 0; name < MOST_NAMES; name++) {
                int outer = jointOf(placement, name);
                if (outer != NONE && !tells(parent, outer)) {
                    setJoint(placement, name, NONE);
                    lost |= 1 << name;
                }
            }
            return lost;
        }

        private void append(int placement, int parent) {
            parents.set(placement, parent);
            following.set(cellBefore(parent, NONE), placement);
        }

        private void unlink(int placement) {
            following.set(cellBefore(parentOf(placement), placement), nextOf(placement));
            following.set(placement, NONE);
        }

        /** The cell that leads to a placement of a sheet, or (NONE) the one that leads to none. */
        private int cellBefore(int sheet, int placement) {
            int cell = headOf(sheet);
            for (int n = 0; n < MOST_PLACEMENTS && following.at(cell) != placement; n++) {
                cell = following.at(cell);
            }
            return cell;
        }

        private int headOf(int sheet) {
            return MOST_PLACEMENTS + sheet;
        }

        boolean tells(int sheet, int name) {
            return holdsName(nameSets.at(sheet), name);
        }

        void addName(int sheet, int name) {
            nameSets.set(sheet, nameSets.at(sheet) | (1 << name));
        }

        int jointOf(int placement, int name) {
            return joints.at(placement * MOST_NAMES + name);
        }

        void setJoint(int placement, int name, int outer) {
            joints.set(placement * MOST_NAMES + name, outer);
        }
    }

    /** The pages, laid anew from the sheets whenever these change; one more than allowed may lie here for a while. */
    private static final class Book {
        private final Sheets sheets;
        private final int[] sheetRow = new int[MOST_PAGES + 1];
        private final int[] placementRow = new int[MOST_PAGES + 1];
        private final int[] aboveRow = new int[MOST_PAGES + 1];
        private final int[] depthRow = new int[MOST_PAGES + 1];

        /** How many earlier pages have the same sheet. */
        private final int[] comingRow = new int[MOST_PAGES + 1];
        private final int[] comings = new int[MOST_SHEETS];
        private int count;

        Book(Sheets sheets) {
            this.sheets = sheets;
        }

        void lay() {
            Arrays.fill(comings, 0);
            count = 0;
            addPage(ROOT, NONE, NONE, 0);
            int at = 0;
            for (int n = 0; n < MOST_PAGES; n++) {
                int p = sheets.firstOn(sheetAt(at));
                for (int up = 0; up < MOST_SHEETS && p == NONE && at > 0; up++) {
                    p = sheets.nextOf(placementAt(at));
                    at = pageAbove(at);
                }
                if (p == NONE) {
                    return;
                }
                at = addPage(sheets.sheetOf(p), p, at, depthAt(at) + 1);
            }
        }

        private int addPage(int sheet, int placement, int above, int depth) {
            int made = count;
            write(sheetRow, made, sheet);
            write(placementRow, made, placement);
            write(aboveRow, made, above);
            write(depthRow, made, depth);
            write(comingRow, made, comingsOf(sheet));
            write(comings, sheet, comingsOf(sheet) + 1);
            count++;
            return made;
        }

        boolean isWithinLimit() {
            return count <= MOST_PAGES;
        }

        int count() {
            return count;
        }

        int sheetAt(int page) {
            return read(sheetRow, page);
        }

        int placementAt(int page) {
            return read(placementRow, page);
        }

        int pageAbove(int page) {
            return read(aboveRow, page);
        }

        int depthAt(int page) {
            return read(depthRow, page);
        }

        int comingAt(int page) {
            return read(comingRow, page);
        }

        int comingsOf(int sheet) {
            return Math.max(read(comings, sheet), 0);
        }

        int pageOfComing(int sheet, int coming) {
            for (int page = 0; page < count; page++) {
                if (sheetAt(page) == sheet && comingAt(page) == coming) {
                    return page;
                }
            }
            return NONE;
        }
    }

    /** The parts, and their gates on the sheets. */
    private static final class Parts {
        private final Book book;
        private final Row size;
        private final Row letters;
        private final Row gateCounts;

        /** The sheet of each gate. */
        private final Row lying;

        /** The gates of each sheet, in order, and how many there are. */
        private final Row gateLists;
        private final Row listLengths;

        /** One cell for each part, for use within one call. */
        private final int[] marks = new int[MOST_PARTS];

        Parts(Journal journal, Book book) {
            this.book = book;
            size = new Row(journal, 1, 0);
            letters = new Row(journal, MOST_PARTS, 0);
            gateCounts = new Row(journal, MOST_PARTS, 0);
            lying = new Row(journal, MOST_PARTS * MOST_GATES, NONE);
            gateLists = new Row(journal, MOST_SHEETS * MOST_GATES_ON_SHEET, NONE);
            listLengths = new Row(journal, MOST_SHEETS, 0);
        }

        boolean isPart(int part) {
            return part >= 0 && part < size.at(0);
        }

        int partsLeft() {
            return MOST_PARTS - size.at(0);
        }

        int letterOf(int part) {
            return letters.at(part);
        }

        int gateCount(int part) {
            return gateCounts.at(part);
        }

        int sheetOfGate(int part, int gate) {
            return lying.at(part * MOST_GATES + gate);
        }

        int gatesOn(int sheet) {
            return listLengths.at(sheet);
        }

        private int gateAt(int sheet, int place) {
            return gateLists.at(sheet * MOST_GATES_ON_SHEET + place);
        }

        private int partAt(int sheet, int place) {
            return gateAt(sheet, place) / MOST_GATES;
        }

        int addPart(int letter, int gates) {
            int made = size.at(0);
            size.set(0, made + 1);
            letters.set(made, letter);
            gateCounts.set(made, gates);
            return made;
        }

        void layGate(int sheet, int part, int gate) {
            int place = gatesOn(sheet);
            lying.set(part * MOST_GATES + gate, sheet);
            gateLists.set(sheet * MOST_GATES_ON_SHEET + place, part * MOST_GATES + gate);
            listLengths.set(sheet, place + 1);
        }

        int partsOn(int sheet) {
            Arrays.fill(marks, NONE);
            int count = 0;
            for (int place = 0; place < gatesOn(sheet); place++) {
                int part = partAt(sheet, place);
                if (read(marks, part) == NONE) {
                    write(marks, part, part);
                    count++;
                }
            }
            return count;
        }

        void addPartsLike(int sheet, int made) {
            Arrays.fill(marks, NONE);
            int length = gatesOn(sheet);
            for (int place = 0; place < length; place++) {
                int part = partAt(sheet, place);
                if (read(marks, part) == NONE) {
                    write(marks, part, addPart(letterOf(part), gateCount(part)));
                }
                layGate(made, read(marks, part), gateAt(sheet, place) % MOST_GATES);
            }
        }

        int unitCount(int part) {
            int most = 0;
            for (int gate = 0; gate < gateCount(part); gate++) {
                most = Math.max(most, book.comingsOf(sheetOfGate(part, gate)));
            }
            return most;
        }

        /**
         * Goes through the pages as the units first come. A gate comes on rising pages, so unit j of
         * a part never comes first behind unit j + 1: counting what has come of each part is enough.
         */
        int numberOf(int part, int unit, boolean byPage) {
            Arrays.fill(marks, 0);
            int number = 0;
            for (int page = 0; page < book.count(); page++) {
                if (byPage) {
                    number = page * PAGE_STEP;
                }
                number += newUnitsAt(page, part, unit);
                if (read(marks, part) > unit) {
                    return number;
                }
            }
            return NONE;
        }

        /** How many units of the part's letter come first on a page, up to the wanted one. */
        private int newUnitsAt(int page, int part, int unit) {
            int sheet = book.sheetAt(page);
            int coming = book.comingAt(page);
            int count = 0;
            for (int place = 0; place < gatesOn(sheet); place++) {
                int other = partAt(sheet, place);
                if (letterOf(other) == letterOf(part) && read(marks, other) == coming) {
                    write(marks, other, coming + 1);
                    count++;
                    if (other == part && coming == unit) {
                        return count;
                    }
                }
            }
            return count;
        }
    }

    /** The variants, and what they tell: each telling keeps its page's path, for pages may change. */
    private static final class Variants {
        private static final int VARIANT_COUNT = 0;
        private static final int TELLING_COUNT = 1;

        private final Book book;
        private final Row counts;
        private final Row aboves;
        private final Row subjects;
        private final Row contents;
        private final Row depths;
        private final Row paths;

        Variants(Journal journal, Book book) {
            this.book = book;
            counts = new Row(journal, 2, 0);
            aboves = new Row(journal, MOST_VARIANTS, NONE);
            subjects = new Row(journal, MOST_TELLINGS, NONE);
            contents = new Row(journal, MOST_TELLINGS, 0);
            depths = new Row(journal, MOST_TELLINGS, 0);
            paths = new Row(journal, MOST_TELLINGS * LONGEST_PATH, NONE);
        }

        int count() {
            return counts.at(VARIANT_COUNT);
        }

        boolean isVariant(int variant) {
            return variant >= 0 && variant < count();
        }

        int addVariant(int above) {
            int made = count();
            counts.set(VARIANT_COUNT, made + 1);
            aboves.set(made, above);
            return made;
        }

        long content(int telling) {
            return contents.longAt(telling);
        }

        boolean tell(int kind, int variant, int page, int part, long v) {
            int subject = subjectOf(kind, variant, part);
            int telling = find(subject, page);
            if (telling != NONE && content(telling) == v) {
                return false;
            }
            if (telling == NONE) {
                if (counts.at(TELLING_COUNT) >= MOST_TELLINGS) {
                    return false;
                }
                telling = addTelling(subject, page);
            }
            contents.set(telling, v);
            return true;
        }

        /** The telling that holds at a page: a variant's own, up to the root, come before those of the one above. */
        int nearest(int kind, int variant, int page, int part) {
            int v = variant;
            for (int n = 0; n < MOST_VARIANTS && v != NONE; n++) {
                int subject = subjectOf(kind, v, part);
                int at = page;
                for (int up = 0; up < MOST_SHEETS && at != NONE; up++) {
                    int telling = find(subject, at);
                    if (telling != NONE) {
                        return telling;
                    }
                    at = book.pageAbove(at);
                }
                v = aboves.at(v);
            }
            return NONE;
        }

        private int find(int subject, int page) {
            for (int telling = 0; telling < counts.at(TELLING_COUNT); telling++) {
                if (subjects.at(telling) == subject && isAt(telling, page)) {
                    return telling;
                }
            }
            return NONE;
        }

        private boolean isAt(int telling, int page) {
            int depth = book.depthAt(page);
            if (depths.at(telling) != depth) {
                return false;
            }
            int at = page;
            for (int step = depth - 1; step >= 0; step--) {
                if (paths.at(telling * LONGEST_PATH + step) != book.placementAt(at)) {
                    return false;
                }
                at = book.pageAbove(at);
            }
            return true;
        }

        private int addTelling(int subject, int page) {
            int made = counts.at(TELLING_COUNT);
            counts.set(TELLING_COUNT, made + 1);
            subjects.set(made, subject);
            depths.set(made, book.depthAt(page));
            int at = page;
            for (int step = book.depthAt(page) - 1; step >= 0; step--) {
                paths.set(made * LONGEST_PATH + step, book.placementAt(at));
                at = book.pageAbove(at);
            }
            return made;
        }

        /** One number for a variant's word on a part, so that a telling is found by one comparison. */
        private static int subjectOf(int kind, int variant, int part) {
            return (kind * MOST_VARIANTS + variant) * MOST_PARTS + part;
        }
    }
}
