import java.util.Arrays;

/** Objects in states that several tests begin with: one of everything, and then each limit reached. */
final class Scenes {

    interface Making {
        SheetTrees make();
    }

    private Scenes() {
    }

    /**
     * Thirteen pages of five sheets; placement 6 of seven is gone; three parts, two variants, three tellings;
     * the last act, a move, lost the joint of name 7.
     */
    static SheetTrees workshop() {
        SheetTrees x = sheets(5);
        int[][] placed = {{0, 1}, {0, 2}, {1, 2}, {1, 3}, {0, 1}, {2, 4}, {0, 3}};
        for (int[] p : placed) {
            x.place(p[0], p[1]);
        }
        x.remove(6);
        int[][] names = {{0, 0}, {0, 31}, {1, 5}, {1, 31}, {2, 7}, {2, 8}};
        for (int[] n : names) {
            x.port(n[0], n[1]);
        }
        x.join(0, 5, 0);
        x.join(0, 31, 31);
        x.join(1, 7, 31);
        x.join(2, 8, 5);
        x.part(0, 1);
        x.part(25, 8);
        x.part(3, 2);
        x.gate(1, 1, 7);
        x.gate(2, 1, 0);
        x.gate(1, 2, 0);
        x.gate(4, 0, 0);
        x.variant(SheetTrees.NONE);
        x.variant(0);
        x.value(0, 0, 1, Long.MIN_VALUE);
        x.value(1, 2, 1, 5);
        x.fit(0, 1, 2, false);
        x.move(1, 3);
        return x;
    }

    static SheetTrees sheets(int count) {
        SheetTrees x = new SheetTrees();
        for (int s = 1; s < count; s++) {
            x.sheet();
        }
        return x;
    }

    static SheetTrees fullOfSheets() {
        SheetTrees x = workshop();
        for (int s = 5; s < 24; s++) {
            x.sheet();
        }
        return x;
    }

    /** 59 or 60 placements in all, most of them on sheet 5, which comes to no page. */
    static SheetTrees placements(int count) {
        SheetTrees x = workshop();
        x.sheet();
        for (int p = 7; p < count; p++) {
            x.place(5, 4);
        }
        return x;
    }

    static SheetTrees fullOfPlacements() {
        return placements(60);
    }

    /** The root with 23 of sheet 1, each with twelve of sheet 2; placement 35 puts sheet 4 on sheet 3, without pages. */
    static SheetTrees fullOfPages() {
        SheetTrees x = sheets(5);
        for (int i = 0; i < 12; i++) {
            x.place(1, 2);
        }
        for (int i = 0; i < 23; i++) {
            x.place(0, 1);
        }
        x.place(3, 4);
        x.part(0, 1);
        x.part(1, 1);
        x.gate(2, 0, 0);
        x.gate(1, 1, 0);
        x.variant(SheetTrees.NONE);
        x.value(0, 299, 0, 9);
        return x;
    }

    static SheetTrees parts(int count) {
        SheetTrees x = workshop();
        for (int p = 3; p < count; p++) {
            x.part(p % 26, p % 8 + 1);
        }
        return x;
    }

    static SheetTrees fullOfParts() {
        return parts(30);
    }

    /** Sheet 3 has twenty gates, of parts 3, 4 and 5, which have eight each; gates 4 to 7 of part 5 lie nowhere. */
    static SheetTrees fullOfGates() {
        SheetTrees x = workshop();
        for (int p = 0; p < 3; p++) {
            x.part(p, 8);
        }
        for (int g = 0; g < 20; g++) {
            x.gate(3, 3 + g / 8, g % 8);
        }
        return x;
    }

    static SheetTrees fullOfVariants() {
        SheetTrees x = workshop();
        for (int v = 2; v < 10; v++) {
            x.variant(v - 1);
        }
        return x;
    }

    /** 40 are told: of part 0 by variant 1 at all pages, by variant 0 values at pages 0 to 4, and fits at 0 to 5. */
    static SheetTrees fullOfTellings() {
        SheetTrees x = workshop();
        for (int n = 0; n < 18; n++) {
            x.value(n < 13 ? 1 : 0, n % 13, 0, n);
        }
        for (int n = 0; n < 19; n++) {
            x.fit(n < 13 ? 1 : 0, n % 13, 0, n % 2 == 0);
        }
        return x;
    }

    /** Numbers outside 0 .. count - 1: next to it, next to other limits, and such as a wrap-around would bring inside. */
    static int[] outside(int count) {
        int[] some = {
            -1, -2, -8, -24, -31, -32, -60, -64, count, count + 1, 32, 33, 60, 64, 300, 301, 1 << 8, 1 << 16, 1 << 26,
            1 << 27, 1 << 28, 1 << 29, 1 << 30, Integer.MIN_VALUE, Integer.MIN_VALUE + 1, Integer.MAX_VALUE,
        };
        int kept = 0;
        for (int n : some) {
            if (n < 0 || n >= count) {
                some[kept++] = n;
            }
        }
        return Arrays.copyOf(some, kept);
    }
}
