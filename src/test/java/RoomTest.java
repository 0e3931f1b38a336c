import com.sun.management.ThreadMXBean;
import java.lang.management.ManagementFactory;

/**
 * All that a run of 512 calls makes has to fit into one room of 600,000 objects and 7.3 million fields and elements,
 * also what is not in use any more. What the dearest runs make is measured in bytes, of which an object has sixteen at
 * least, and a field or an element of the class four.
 */
public final class RoomTest {

    /** With a tenth of 600,000 times sixteen bytes, objects and elements both keep far below the room's end. */
    private static final long MOST_BYTES = 600_000 * 16 / 10;

    interface Run {
        void go();
    }

    public static void main(String[] args) {
        makesLittle("28 placements copied, and undone", RoomTest::copyAndUndo);
        makesLittle("a placement placed, and undone", RoomTest::placeAndUndo);
        makesLittle("a page too many", RoomTest::placeInVain);
        makesLittle("32 joints lost, and undone", RoomTest::moveAndUndo);
        makesLittle("a placement moved to and fro", RoomTest::moveToAndFro);
        makesLittle("a value told at a long path, and undone", RoomTest::tellAndUndo);
        makesLittle("a value told anew", RoomTest::tellAnew);
        makesLittle("questions", RoomTest::ask);
        Check.end();
    }

    private static void makesLittle(String what, Run run) {
        // What is made once, when code is first used, is not the run's.
        run.go();
        long before = bytesMade();
        run.go();
        long made = bytesMade() - before;
        Check.yes(what + ": " + made + " bytes made, " + MOST_BYTES + " at most", made <= MOST_BYTES);
    }

    private static long bytesMade() {
        ThreadMXBean threads = (ThreadMXBean) ManagementFactory.getThreadMXBean();
        return threads.getCurrentThreadAllocatedBytes();
    }

    /** Sheet 2 with all names is on sheet 1, which tells name 0: placement 0 joins all to that. 68 calls. */
    private static SheetTrees joinedByAllNames() {
        SheetTrees x = Scenes.sheets(3);
        x.port(1, 0);
        x.place(1, 2);
        for (int name = 0; name < 32; name++) {
            x.port(2, name);
            x.join(0, name, 0);
        }
        return x;
    }

    /** Each copy of sheet 1 is brought back onto it, up to 28 placements; then come twenty gates. 135 calls. */
    private static SheetTrees dearToCopy() {
        SheetTrees x = joinedByAllNames();
        for (int count = 1; count < 28; count *= 2) {
            x.copy(1);
            for (int p = count; p < 2 * count && p < 28; p++) {
                Check.yes("a copied placement is brought to sheet 1", x.move(p, 1));
            }
        }
        for (int part = 0; part < 15; part++) {
            x.part(part, 2);
        }
        for (int g = 0; g < 20; g++) {
            x.gate(1, g % 15, g / 15);
        }
        return x;
    }

    private static void copyAndUndo() {
        SheetTrees x = dearToCopy();
        for (int n = 0; n < 188; n++) {
            Check.same("copy(1)", x.copy(1), 8);
            Check.yes("undo()", x.undo());
        }
    }

    private static void placeAndUndo() {
        SheetTrees x = Scenes.sheets(2);
        for (int n = 0; n < 255; n++) {
            Check.same("place(0, 1)", x.place(0, 1), 0);
            Check.yes("undo()", x.undo());
        }
    }

    private static void placeInVain() {
        SheetTrees x = Scenes.fullOfPages();
        for (int n = 0; n < 465; n++) {
            Check.none("place(0, 1)", x.place(0, 1));
        }
    }

    private static void moveAndUndo() {
        SheetTrees x = joinedByAllNames();
        for (int n = 0; n < 222; n++) {
            Check.yes("move(0, 0)", x.move(0, 0));
            Check.yes("undo()", x.undo());
        }
    }

    private static void moveToAndFro() {
        SheetTrees x = Scenes.workshop();
        for (int n = 0; n < 475; n++) {
            Check.yes("move(5, ..)", x.move(5, n % 4));
        }
    }

    /** Each sheet lies in the one before it: page 23 has the longest path. 49 calls. */
    private static SheetTrees longPath() {
        SheetTrees x = Scenes.sheets(24);
        for (int s = 1; s < 24; s++) {
            x.place(s - 1, s);
        }
        x.part(0, 1);
        x.variant(SheetTrees.NONE);
        x.variant(0);
        return x;
    }

    private static void tellAndUndo() {
        SheetTrees x = longPath();
        for (int n = 0; n < 231; n++) {
            Check.yes("value(1, 23, 0, 7)", x.value(1, 23, 0, 7));
            Check.yes("undo()", x.undo());
        }
    }

    private static void tellAnew() {
        SheetTrees x = longPath();
        for (int n = 0; n < 463; n++) {
            Check.yes("value(1, 23, 0, ..)", x.value(1, 23, 0, n));
        }
    }

    private static void ask() {
        SheetTrees x = longPath();
        x.gate(23, 0, 0);
        for (int n = 0; n < 115; n++) {
            Check.same("valueOf(1, 23, 0)", x.valueOf(1, 23, 0), 0);
            Check.yes("fitted(1, 23, 0)", x.fitted(1, 23, 0));
            Check.same("where(0, 0, 0)", x.where(0, 0, 0), 23);
            Check.same("name(0, 0)", x.name(0, 0), 1);
        }
    }
}
