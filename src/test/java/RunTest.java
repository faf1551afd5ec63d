/** Promises 10 to 13: the tape, runs, and what they called. */
public final class RunTest {
    public static void main(String[] args) {
        Check check = new Check("RunTest");
        feeds(check);
        readsInOrder(check);
        refusesRuns(check);
        kindsInRuns(check);
        ends(check);
        endsAtTheMost(check);
        seenStays(check);
        check.end();
    }

    private static void feeds(Check check) {
        DoorLister lister = new DoorLister();
        for (int size = 20; size <= 80; size += 20) {
            check.due("feed", lister.feed(1, 2, 3, 4, 5), size);
        }
        check.due("more than 80", lister.feed(1, 2, 3, 4, 5), -1);
        check.due("the tape stays", lister.count(-1, 1), 80);
        check.due("all of it", lister.run(0, 80), 0);
        check.due("empty", lister.count(-1, 1), 0);
        check.due("fed anew", lister.feed(-1, -1, -1, -1, -1), 20);
    }

    /** Calls door 0 with each byte that is read, until there is none. */
    private static void echo(DoorLister lister, int p) {
        Kinds.write(lister, p, Kinds.row(Kinds.READ, 1), Kinds.row(Kinds.CALL), Kinds.row(Kinds.GO, 0, 0, 0));
    }

    private static void readsInOrder(Check check) {
        DoorLister lister = new DoorLister();
        for (int n = 0; n <= 20; n++) {
            DoorLister each = new DoorLister();
            echo(each, 0);
            each.feed(0x00010203, 0x04050607, 0x08090A0B, 0x0C0D0E0F, 0x10111213);
            check.due("run", each.run(0, n), n);
            check.due("seen", each.seen(0, 0, 0), (1 << n) - 1);
            check.due("ended", each.ended(), 1);
        }
        echo(lister, 1);
        lister.feed(0xFF9F3F20, 0, 0, 0, 0);
        check.due("modulo 32", lister.run(1, 4), 4);
        check.due("31 and 0", lister.seen(1, 0, 0), 1 << 31 | 1);
        lister.feed(0x05050505, 0x05050505, 0x05050505, 0x05050505, 0x05050505);
        lister.feed(0x06060606, 0x06060606, 0x06060606, 0x06060606, 0x06060607);
        check.due("two feeds", lister.run(1, 40), 40);
        check.due("both came", lister.seen(1, 0, 0), 1 << 31 | 1 | 32 | 64 | 128);
    }

    private static void refusesRuns(Check check) {
        DoorLister lister = new DoorLister();
        echo(lister, 0);
        lister.feed(0, 0, 0, 0, 0);
        check.due("too many", lister.run(0, 21), -1);
        check.due("below 0", lister.run(0, -1), -1);
        check.due("far too many", lister.run(0, Integer.MAX_VALUE), -1);
        check.due("far below", lister.run(0, Integer.MIN_VALUE), -1);
        check.due("no such one", lister.run(4, 0), -1);
        check.due("no such one", lister.run(-1, 0), -1);
        check.due("no run", lister.ended(), -1);
        check.due("the tape stays", lister.count(-1, 1), 20);
        check.due("nothing seen", lister.count(0, 3), 0);
        check.due("some of it", lister.run(0, 1), 1);
        check.due("all of it is gone", lister.count(-1, 1), 0);
        check.due("a run", lister.ended(), 1);
        check.due("an empty code", lister.run(3, 0), 0);
        check.due("its end", lister.ended(), 0);
        check.due("refused", lister.run(0, 1), -1);
        check.due("the latest stays", lister.ended(), 0);
    }

    private static void kindsInRuns(Check check) {
        DoorLister lister = new DoorLister();
        Kinds.write(lister, 0, Kinds.row(Kinds.SET, 0, 30), Kinds.row(Kinds.ADD, 0, 5), Kinds.row(Kinds.CALL),
                Kinds.row(Kinds.COPY, 1), Kinds.row(Kinds.CALL), Kinds.row(Kinds.POINT), Kinds.row(Kinds.SET, 1, 29),
                Kinds.row(Kinds.MASK, 1, 22), Kinds.row(Kinds.CALL), Kinds.row(Kinds.COPY, 0), Kinds.row(Kinds.CALL),
                Kinds.row(Kinds.IF, 0, 20, 13), Kinds.row(Kinds.IF, 0, 21, 14), Kinds.row(Kinds.CALL),
                Kinds.row(Kinds.SET, 1, 0), Kinds.row(Kinds.CALL), Kinds.row(Kinds.CALL), Kinds.row(Kinds.GO, 0, 0, 19),
                Kinds.row(Kinds.CALL), Kinds.row(Kinds.END), Kinds.row(Kinds.CALL));
        check.due("calls, each as often as it is made", lister.run(0, 0), 6);
        check.due("start, door 3", lister.seen(0, 0, 3), 1 | 8);
        check.due("after, door 3", lister.seen(0, 1, 3), 1 << 20);
        check.due("after, door 20", lister.seen(0, 1, 20), 1 << 20 | 1);
        check.due("at start", lister.count(0, 3), 2);
        check.due("after", lister.count(0, 4), 3);
        check.due("again", lister.run(0, 0), 6);
        check.due("no more", lister.count(0, 4), 3);
        check.due("not of others", lister.count(1, 3), 0);
        lister.code(1, Kinds.CALL, 0, 0, 0);
        check.due("each run begins anew", lister.run(1, 0), 1);
        check.due("with registers of 0, at start", lister.seen(1, 0, 0), 1);
    }

    private static void ends(Check check) {
        DoorLister lister = new DoorLister();
        Kinds.write(lister, 0, Kinds.row(Kinds.END), Kinds.row(Kinds.CALL));
        check.due("END", lister.run(0, 0), 0);
        check.due("by END", lister.ended(), 0);
        Kinds.write(lister, 1, Kinds.row(Kinds.READ, 0));
        check.due("READ", lister.run(1, 0), 0);
        check.due("no byte", lister.ended(), 1);
        Kinds.write(lister, 2, Kinds.row(Kinds.GO, 0, 0, 0));
        check.due("GO", lister.run(2, 0), 0);
        check.due("500", lister.ended(), 2);
        Kinds.write(lister, 3, Kinds.row(Kinds.GO, 0, 0, 24));
        check.due("GO behind", lister.run(3, 0), 0);
        check.due("by END", lister.ended(), 0);
    }

    /** Ten instructions for each byte that is 0; then it falls out of the loop behind the byte 1. */
    private static DoorLister tenABy(int more) {
        DoorLister lister = new DoorLister();
        Kinds.write(lister, 0, Kinds.row(Kinds.READ, 0));
        for (int i = 0; i < 8; i++) {
            lister.code(0, Kinds.CALL, 0, 0, 0);
        }
        lister.code(0, Kinds.IF, 0, 1, 0);
        for (int i = 0; i < more; i++) {
            lister.code(0, Kinds.CALL, 0, 0, 0);
        }
        return lister;
    }

    private static void feedZerosAndOne(DoorLister lister, int zeros) {
        int[] words = new int[20];
        words[zeros / 4] = 1 << 24 - zeros % 4 * 8;
        for (int i = 0; i < 20; i += 5) {
            lister.feed(words[i], words[i + 1], words[i + 2], words[i + 3], words[i + 4]);
        }
    }

    private static void endsAtTheMost(Check check) {
        DoorLister below = tenABy(9);
        feedZerosAndOne(below, 48);
        check.due("499, then END", below.run(0, 50), 48 * 8 + 8 + 9);
        check.due("by END", below.ended(), 0);
        DoorLister just = tenABy(0);
        feedZerosAndOne(just, 49);
        check.due("500, then END, which is none", just.run(0, 50), 400);
        check.due("by END", just.ended(), 0);
        DoorLister told = tenABy(0);
        told.code(0, Kinds.END, 0, 0, 0);
        feedZerosAndOne(told, 49);
        check.due("500, then an END in the code", told.run(0, 50), 400);
        check.due("by END", told.ended(), 0);
        DoorLister above = tenABy(1);
        feedZerosAndOne(above, 49);
        check.due("500, then one more", above.run(0, 50), 400);
        check.due("by 500", above.ended(), 2);
        DoorLister read = tenABy(0);
        feedZerosAndOne(read, 70);
        check.due("500, then a READ without a byte", read.run(0, 50), 400);
        check.due("by 500", read.ended(), 2);
        DoorLister early = tenABy(0);
        feedZerosAndOne(early, 70);
        check.due("490, then a READ without a byte", early.run(0, 49), 392);
        check.due("no byte", early.ended(), 1);
    }

    private static void seenStays(Check check) {
        DoorLister lister = new DoorLister();
        Kinds.write(lister, 0, Kinds.row(Kinds.SET, 1, 4), Kinds.row(Kinds.CALL));
        lister.run(0, 0);
        lister.change(0, 0, Kinds.SET, 1, 5, 0);
        check.due("changed code leaves it", lister.seen(0, 0, 0), 16);
        lister.run(0, 0);
        check.due("it grows", lister.seen(0, 0, 0), 48);
        int[] outs = {-1, 32, Integer.MIN_VALUE, Integer.MAX_VALUE};
        for (int out : outs) {
            check.due("seen", lister.seen(out, 0, 0), 0);
            check.due("seen", lister.seen(0, out, 0), 0);
            check.due("seen", lister.seen(0, 0, out), 0);
        }
        check.due("seen(4, 0, 0)", lister.seen(4, 0, 0), 0);
        check.due("seen(0, 2, 0)", lister.seen(0, 2, 0), 0);
        check.due("seen(0, 1, 0)", lister.seen(0, 1, 0), 0);
    }
}
