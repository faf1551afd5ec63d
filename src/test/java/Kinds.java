/** The kinds of instructions by name, numbers far outside, and short ways to write programs in tests. */
final class Kinds {
    static final int SET = 0;
    static final int ADD = 1;
    static final int COPY = 2;
    static final int READ = 3;
    static final int MASK = 4;
    static final int IF = 5;
    static final int GO = 6;
    static final int CALL = 7;
    static final int POINT = 8;
    static final int END = 9;

    static final int TOP = Integer.MAX_VALUE;
    static final int BOTTOM = Integer.MIN_VALUE;

    private Kinds() {
    }

    /** Numbers outside 0 to last: the ones next to it, and the farthest ones. */
    static int[] outside(int last) {
        return new int[] {-1, last + 1, BOTTOM, TOP};
    }

    /** Rows of kind, x, n, to; what a row leaves out is 0. */
    static void write(DoorLister lister, int p, int[]... rows) {
        for (int[] row : rows) {
            lister.code(p, row[0], part(row, 1), part(row, 2), part(row, 3));
        }
    }

    static int[] row(int... parts) {
        return parts;
    }

    private static int part(int[] row, int i) {
        return i < row.length ? row[i] : 0;
    }

    /** A new object whose program 0 has these rows. */
    static DoorLister of(int[]... rows) {
        DoorLister lister = new DoorLister();
        write(lister, 0, rows);
        return lister;
    }

    /** Program p can make every call there is, in both phases. */
    static void callAll(DoorLister lister, int p) {
        write(lister, p, row(READ, 0), row(READ, 1), row(CALL), row(POINT), row(CALL));
    }

    /** Program p calls door 0 with each byte that is read, until there is none. */
    static void echo(DoorLister lister, int p) {
        write(lister, p, row(READ, 1), row(CALL), row(GO, 0, 0, 0));
    }

    /**
     * Program p goes through all pairs of numbers one by one and makes one call then, in phase 0 and once more in
     * phase 1: no program has many more states.
     */
    static void sweep(DoorLister lister, int p) {
        for (int i = 0; i < 15; i++) {
            lister.code(p, MASK, i % 2, 31, 0);
        }
        write(lister, p, row(ADD, 1, 1), row(IF, 1, 1, 18), row(GO, 0, 0, 0), row(ADD, 0, 1), row(IF, 0, 1, 21),
                row(GO, 0, 0, 0), row(CALL), row(POINT), row(GO, 0, 0, 0));
    }

    /** Program p makes one more call, in phase 1. */
    static void callOne(DoorLister lister, int p, int door, int argument) {
        callSpan(lister, p, door, argument, argument);
    }

    /** Program p calls one more door with all arguments from first to last in phase 1. */
    static void callSpan(DoorLister lister, int p, int door, int first, int last) {
        int base = lister.count(p, 0);
        if (base == 0) {
            lister.code(p, POINT, 0, 0, 0);
            base = 1;
        }
        lister.code(p, SET, 0, door, 0);
        lister.code(p, SET, 1, first, 0);
        lister.code(p, CALL, 0, 0, 0);
        if (last > first) {
            lister.code(p, ADD, 1, 1, 0);
            if (last < 31) {
                lister.code(p, IF, 1, last + 1, base + 2);
            } else {
                lister.code(p, IF, 1, 1, base + 6);
                lister.code(p, GO, 0, 0, base + 2);
            }
        }
    }
}
