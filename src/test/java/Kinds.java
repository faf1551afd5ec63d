/** The kinds of instructions by name, and short ways to write programs in tests. */
final class Kinds {
    static final int SET = 0;
    static final int ADD = 1;
    static final int COPY = 2;
    static final int READ = 3;
    static final int MASK = 4;
    static final int IF = 5;
    static final int GO = 6;
    static final int CALL = 7;
    static final int POINT = 8;
    static final int END = 9;

    private Kinds() {
    }

    /** Rows of kind, x, n, to; what a row leaves out is 0. */
    static void write(DoorLister lister, int p, int[]... rows) {
        for (int[] row : rows) {
            lister.code(p, row[0], part(row, 1), part(row, 2), part(row, 3));
        }
    }

    static int[] row(int... parts) {
        return parts;
    }

    private static int part(int[] row, int i) {
        return i < row.length ? row[i] : 0;
    }

    /** A program that calls one door with all arguments from first to last in phase 1. */
    static void callSpan(DoorLister lister, int p, int door, int first, int last) {
        int base = lister.count(p, 0);
        if (base == 0) {
            lister.code(p, POINT, 0, 0, 0);
            base = 1;
        }
        lister.code(p, SET, 0, door, 0);
        lister.code(p, SET, 1, first, 0);
        lister.code(p, CALL, 0, 0, 0);
        if (last > first) {
            lister.code(p, ADD, 1, 1, 0);
            if (last < 31) {
                lister.code(p, IF, 1, last + 1, base + 2);
            } else {
                lister.code(p, IF, 1, 1, base + 6);
                lister.code(p, GO, 0, 0, base + 2);
            }
        }
    }
}
