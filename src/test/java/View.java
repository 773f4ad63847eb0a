/** All that can be seen of an object by calls that change nothing (but for set, which puts back what was). */
final class View {
    private static final int[] FIRST = {0, 20, 4, 300, 3, 0, 0};

    private View() {
    }

    static long[] of(TowThatJerks x) {
        long[] seen = new long[90];
        int at = 0;
        for (int what = 0; what < 5; what++) {
            seen[at++] = x.count(what);
        }
        for (int piece = 0; piece < 6; piece++) {
            for (int what = 0; what < 9; what++) {
                seen[at++] = x.piece(piece, what);
            }
            seen[at++] = x.why(piece);
        }
        for (int what = 0; what < 7; what++) {
            int was = x.set(what, FIRST[what]);
            x.set(what, was);
            seen[at++] = was;
        }
        seen[at++] = x.yaw(0);
        seen[at++] = x.yaw(1);
        seen[at++] = x.line(1);
        seen[at++] = x.line(5);
        return seen;
    }

    /** What stands on the shelves: prices and failures of pieces, elements of rows. */
    static long[] ofShelves(TowThatJerks x) {
        long[] seen = new long[8 * 7];
        int at = 0;
        for (int d = 0; d < 8; d++) {
            seen[at++] = x.price(d);
            seen[at++] = x.toss(d);
            seen[at++] = x.copy(d, 0, d, 0, 3);
            for (int i = 0; i < 4; i++) {
                seen[at++] = elementOr(x, d, i);
            }
        }
        return seen;
    }

    private static long elementOr(TowThatJerks x, int d, int i) {
        try {
            return x.element(d, i);
        } catch (IllegalStateException e) {
            return Long.MIN_VALUE;
        }
    }
}
