/** Promises 5 to 7: what programs need, and its spans. */
public final class ListTest {
    public static void main(String[] args) {
        Check check = new Check("ListTest");
        kindsDoTheirWork(check);
        readsBranch(check);
        phases(check);
        loops(check);
        jumpsBehindTheEnd(check);
        spans(check);
        wrongOnes(check);
        check.end();
    }

    private static int needs(int door, int[]... rows) {
        DoorLister lister = new DoorLister();
        Kinds.write(lister, 0, rows);
        return lister.needed(0, 0, door);
    }

    private static void kindsDoTheirWork(Check check) {
        int[] call = Kinds.row(Kinds.CALL, 1, 31, 24);
        check.due("at first", needs(0, call), 1);
        check.due("SET 0", needs(31, Kinds.row(Kinds.SET, 0, 31), call), 1);
        check.due("SET 1", needs(0, Kinds.row(Kinds.SET, 1, 31), call), 1 << 31);
        check.due("ADD 0", needs(4, Kinds.row(Kinds.SET, 0, 29), Kinds.row(Kinds.ADD, 0, 7), call), 1);
        check.due("ADD 1", needs(0, Kinds.row(Kinds.SET, 1, 29), Kinds.row(Kinds.ADD, 1, 7), call), 16);
        check.due("ADD 0 of 0", needs(29, Kinds.row(Kinds.SET, 0, 29), Kinds.row(Kinds.ADD, 0, 0), call), 1);
        check.due("ADD 1 of 0", needs(0, Kinds.row(Kinds.SET, 1, 29), Kinds.row(Kinds.ADD, 1, 0), call), 1 << 29);
        check.due("COPY 0", needs(6, Kinds.row(Kinds.SET, 1, 6), Kinds.row(Kinds.COPY, 0, 3), call), 64);
        check.due("COPY 1", needs(6, Kinds.row(Kinds.SET, 0, 6), Kinds.row(Kinds.COPY, 1, 3), call), 64);
        check.due("MASK 0", needs(9, Kinds.row(Kinds.SET, 0, 27), Kinds.row(Kinds.MASK, 0, 13), call), 1);
        check.due("MASK 1", needs(0, Kinds.row(Kinds.SET, 1, 27), Kinds.row(Kinds.MASK, 1, 13), call), 512);
        check.due("GO", needs(0, Kinds.row(Kinds.GO, 1, 5, 2), Kinds.row(Kinds.SET, 1, 3), call), 1);
        check.due("END", needs(0, Kinds.row(Kinds.END, 0, 0, 1), call), 0);
        check.due("IF below", needs(0, Kinds.row(Kinds.IF, 0, 1, 2), Kinds.row(Kinds.SET, 1, 3), call), 1);
        check.due("IF not below", needs(0, Kinds.row(Kinds.IF, 0, 0, 2), Kinds.row(Kinds.SET, 1, 3), call), 8);
        check.due("IF 1 below", needs(0, Kinds.row(Kinds.IF, 1, 1, 2), Kinds.row(Kinds.SET, 1, 3), call), 1);
        check.due("IF 1 not below", needs(0, Kinds.row(Kinds.IF, 1, 0, 2), Kinds.row(Kinds.SET, 1, 3), call), 8);
        check.due("POINT goes on", needs(0, Kinds.row(Kinds.POINT, 0, 0, 0), call), 0);
    }

    private static void readsBranch(Check check) {
        int[] call = Kinds.row(Kinds.CALL);
        int[] read0 = Kinds.row(Kinds.READ, 0);
        int[] read1 = Kinds.row(Kinds.READ, 1);
        check.due("READ 1", needs(0, read1, call), -1);
        check.due("READ 0", needs(31, read0, call), 1);
        check.due("READ both", needs(17, read0, read1, call), -1);
        check.due("READ 0, COPY 1", needs(17, read0, Kinds.row(Kinds.COPY, 1), call), 1 << 17);
        check.due("READ 1, COPY 0", needs(17, read1, Kinds.row(Kinds.COPY, 0), call), 1 << 17);
        check.due("READ 1, MASK 1", needs(0, read1, Kinds.row(Kinds.MASK, 1, 18), call), 1 | 4 | 1 << 16 | 1 << 18);
        check.due("READ 1, IF", needs(0, read1, Kinds.row(Kinds.IF, 1, 5, 3), call, Kinds.row(Kinds.END)), ~31);
        check.due("READ 0, IF", needs(4, read0, Kinds.row(Kinds.IF, 0, 5, 3), call, Kinds.row(Kinds.END)), 0);
        check.due("READ 0, IF not", needs(5, read0, Kinds.row(Kinds.IF, 0, 5, 3), call, Kinds.row(Kinds.END)), 1);
        check.due("IF 31 leaves 31", needs(0, read1, Kinds.row(Kinds.IF, 1, 31, 3), call), 1 << 31);
    }

    private static void phases(Check check) {
        DoorLister lister = new DoorLister();
        Kinds.write(lister, 2, Kinds.row(Kinds.CALL), Kinds.row(Kinds.POINT), Kinds.row(Kinds.ADD, 1, 1),
                Kinds.row(Kinds.CALL), Kinds.row(Kinds.POINT), Kinds.row(Kinds.IF, 1, 3, 0));
        check.due("at start", lister.needed(2, 0, 0), 1);
        check.due("after, for ever", lister.needed(2, 1, 0), 2 | 4 | 8);
    }

    private static void loops(Check check) {
        check.due("all sums", needs(0, Kinds.row(Kinds.CALL), Kinds.row(Kinds.ADD, 1, 1), Kinds.row(Kinds.GO, 0, 0, 0)),
                -1);
        check.due("even sums", needs(0, Kinds.row(Kinds.CALL), Kinds.row(Kinds.ADD, 1, 6), Kinds.row(Kinds.GO, 0, 0, 0)),
                0x55555555);
        check.due("a loop of one", needs(0, Kinds.row(Kinds.GO, 0, 0, 0), Kinds.row(Kinds.CALL)), 0);
        check.due("longer than any run", needs(31, Kinds.row(Kinds.ADD, 1, 1), Kinds.row(Kinds.IF, 1, 1, 3),
                Kinds.row(Kinds.GO, 0, 0, 0), Kinds.row(Kinds.CALL), Kinds.row(Kinds.ADD, 0, 1),
                Kinds.row(Kinds.GO, 0, 0, 0)), 1);
    }

    private static void jumpsBehindTheEnd(Check check) {
        DoorLister lister = new DoorLister();
        Kinds.write(lister, 0, Kinds.row(Kinds.GO, 0, 0, 2), Kinds.row(Kinds.CALL));
        check.due("behind the last is END", lister.needed(0, 0, 0), 0);
        lister.code(0, Kinds.CALL, 0, 0, 0);
        check.due("until something is there", lister.needed(0, 0, 0), 1);
        lister.change(0, 0, Kinds.GO, 0, 0, 24);
        check.due("24 is END always", lister.needed(0, 0, 0), 0);
    }

    private static void spans(Check check) {
        DoorLister lister = new DoorLister();
        Kinds.write(lister, 1, Kinds.row(Kinds.READ, 1), Kinds.row(Kinds.MASK, 1, 27), Kinds.row(Kinds.CALL),
                Kinds.row(Kinds.SET, 0, 31), Kinds.row(Kinds.READ, 1), Kinds.row(Kinds.CALL),
                Kinds.row(Kinds.SET, 0, 12), Kinds.row(Kinds.SET, 1, 0), Kinds.row(Kinds.CALL),
                Kinds.row(Kinds.SET, 1, 31), Kinds.row(Kinds.CALL));
        int[][] want = {
            {0, 0, 3}, {0, 8, 11}, {0, 16, 19}, {0, 24, 27}, {12, 0, 0}, {12, 31, 31}, {31, 0, 31},
        };
        check.due("spans", lister.spans(1, 0), want.length);
        for (int i = 0; i < want.length; i++) {
            for (int what = 0; what < 3; what++) {
                check.due("span(1, 0, " + i + ", " + what + ")", lister.span(1, 0, i, what), want[i][what]);
            }
        }
        check.due("behind the last", lister.span(1, 0, 7, 0), -1);
        check.due("the other phase has none", lister.spans(1, 1), 0);
        check.due("none of it", lister.span(1, 1, 0, 0), -1);
        DoorLister most = new DoorLister();
        Kinds.write(most, 0, Kinds.row(Kinds.READ, 0), Kinds.row(Kinds.READ, 1), Kinds.row(Kinds.MASK, 1, 30),
                Kinds.row(Kinds.CALL));
        check.due("the most that can be", most.spans(0, 0), 512);
        check.due("its last", most.span(0, 0, 511, 0), 31);
        check.due("its argument", most.span(0, 0, 511, 1), 30);
        check.due("its last argument", most.span(0, 0, 511, 2), 30);
        check.due("one more", most.span(0, 0, 512, 0), -1);
    }

    private static void wrongOnes(Check check) {
        DoorLister lister = new DoorLister();
        Kinds.write(lister, 0, Kinds.row(Kinds.READ, 0), Kinds.row(Kinds.READ, 1), Kinds.row(Kinds.CALL));
        int[] outs = {-1, Integer.MIN_VALUE, Integer.MAX_VALUE};
        for (int out : outs) {
            check.due("needed", lister.needed(out, 0, 0), 0);
            check.due("needed", lister.needed(0, out, 0), 0);
            check.due("needed", lister.needed(0, 0, out), 0);
            check.due("spans", lister.spans(out, 0), -1);
            check.due("spans", lister.spans(0, out), -1);
            check.due("span", lister.span(out, 0, 0, 0), -1);
            check.due("span", lister.span(0, out, 0, 0), -1);
            check.due("span", lister.span(0, 0, out, 0), -1);
            check.due("span", lister.span(0, 0, 0, out), -1);
        }
        check.due("needed(4, 0, 0)", lister.needed(4, 0, 0), 0);
        check.due("needed(0, 2, 0)", lister.needed(0, 2, 0), 0);
        check.due("needed(0, 0, 32)", lister.needed(0, 0, 32), 0);
        check.due("spans(4, 0)", lister.spans(4, 0), -1);
        check.due("spans(0, 2)", lister.spans(0, 2), -1);
        check.due("span(4, 0, 0, 0)", lister.span(4, 0, 0, 0), -1);
        check.due("span(0, 2, 0, 0)", lister.span(0, 2, 0, 0), -1);
        check.due("span(0, 0, 32, 0)", lister.span(0, 0, 32, 0), -1);
        check.due("span(0, 0, 0, 3)", lister.span(0, 0, 0, 3), -1);
    }
}
