/** Promises 10 to 13: the tape, runs, and what they called. */
public final class RunTest {
    private static final int[] CALL = Kinds.row(Kinds.CALL);

    public static void main(String[] args) {
        Check check = new Check("RunTest");
        feedsTwenty(check);
        feedsHighestFirst(check);
        feedsBehind(check);
        moreThan80(check);
        firstBytes(check);
        moduloOf32(check);
        emptyThen(check);
        notSoMany(check);
        noSuchProgram(check);
        callsMade(check);
        kindsInRuns(check);
        beginsAnew(check);
        noByte(check);
        behind500(check);
        endIsNone(check);
        endedLatest(check);
        endedNone(check);
        seenInPhases(check);
        seenStays(check);
        seenNone(check);
        seenNoSuchOnes(check);
        check.end();
    }

    private static void feedsTwenty(Check check) {
        check.promise(10, "Twenty bytes come behind the tape");
        DoorLister lister = new DoorLister();
        for (int size = 20; size <= 80; size += 20) {
            check.due("feed", lister.feed(0, 0, 0, 0, 0), size);
            check.due("count", lister.count(-1, 1), size);
        }
        lister.run(0, 0);
        check.due("fed anew", lister.feed(-1, -1, -1, -1, -1), 20);
    }

    private static void feedsHighestFirst(Check check) {
        check.promise(10, "the highest of each int first");
        for (int n = 0; n <= 20; n++) {
            DoorLister lister = new DoorLister();
            Kinds.echo(lister, 0);
            lister.feed(0x00010203, 0x04050607, 0x08090A0B, 0x0C0D0E0F, 0x10111213);
            check.due("run", lister.run(0, n), n);
            check.due("seen of " + n, lister.seen(0, 0, 0), (1 << n) - 1);
        }
    }

    private static void feedsBehind(Check check) {
        check.promise(10, "Twenty bytes come behind the tape");
        for (int n = 19; n <= 80; n++) {
            DoorLister lister = new DoorLister();
            Kinds.echo(lister, 0);
            for (int word = 0x01010101; word <= 0x04040404; word += 0x01010101) {
                lister.feed(word, word, word, word, word);
            }
            lister.run(0, n);
            check.due("seen of " + n, lister.seen(0, 0, 0), n <= 20 ? 2 : n <= 40 ? 6 : n <= 60 ? 14 : 30);
        }
    }

    private static void moreThan80(Check check) {
        check.promise(10, "NONE if that would be more than 80");
        DoorLister lister = new DoorLister();
        Kinds.echo(lister, 0);
        for (int i = 0; i < 4; i++) {
            lister.feed(0, 0, 0, 0, 0);
        }
        check.due("a fifth one", lister.feed(-1, -1, -1, -1, -1), -1);
        check.due("a sixth one", lister.feed(-1, -1, -1, -1, -1), -1);
        check.due("80 stay", lister.count(-1, 1), 80);
        check.due("all of it", lister.run(0, 80), 80);
        check.due("nothing of the fifth came", lister.seen(0, 0, 0), 1);
        check.due("there is room then", lister.feed(0, 0, 0, 0, 0), 20);
    }

    private static void firstBytes(Check check) {
        check.promise(11, "A RUN of PROGRAM p by the first n bytes of the tape");
        int[] sizes = {0, 1, 19, 20};
        for (int n : sizes) {
            DoorLister lister = new DoorLister();
            Kinds.echo(lister, 0);
            lister.feed(0, 0, 0, 0, 0x0000001F);
            check.due("run by " + n, lister.run(0, n), n);
            check.due("seen", lister.seen(0, 0, 0), n == 0 ? 0 : n < 20 ? 1 : 1 << 31 | 1);
        }
        DoorLister some = Kinds.of(Kinds.row(Kinds.READ, 1), CALL);
        some.feed(0x05060000, 0, 0, 0, 0);
        check.due("not all need to be READ", some.run(0, 20), 1);
        check.due("the first one was", some.seen(0, 0, 0), 32);
        check.due("it ended by END", some.ended(), 0);
    }

    private static void moduloOf32(Check check) {
        check.terms(11, "each READ takes the next byte modulo 32");
        int[][] bytes = {{0, 0}, {31, 31}, {32, 0}, {33, 1}, {63, 31}, {127, 31}, {128, 0}, {159, 31}, {224, 0}, {255, 31}};
        for (int[] b : bytes) {
            for (int shift = 0; shift < 32; shift += 8) {
                DoorLister lister = new DoorLister();
                Kinds.echo(lister, 1);
                int other = 0x07070707 & ~(255 << shift);
                lister.feed(b[0] << shift | other, 0, 0, 0, 0);
                lister.run(1, 4);
                check.due("byte " + b[0], lister.seen(1, 0, 0), 1 << b[1] | 128);
            }
        }
        DoorLister both = Kinds.of(Kinds.row(Kinds.READ, 0), Kinds.row(Kinds.READ, 1), CALL);
        both.feed(0xFF3E0000, 0, 0, 0, 0);
        both.run(0, 2);
        check.due("into register 0, then into 1", both.seen(0, 0, 31), 1 << 30);
    }

    private static void emptyThen(Check check) {
        check.promise(11, "(empty then)");
        int[] sizes = {0, 1, 39, 40};
        for (int n : sizes) {
            DoorLister lister = new DoorLister();
            Kinds.echo(lister, 0);
            lister.feed(0, 0, 0, 0, 0);
            lister.feed(0, 0, 0, 0, 0);
            lister.run(0, n);
            check.due("behind a run by " + n, lister.count(-1, 1), 0);
            check.due("not one is left", lister.run(0, 1), -1);
            lister.feed(0x09090909, 0x09090909, 0x09090909, 0x09090909, 0x09090909);
            check.due("only what came then", lister.run(0, 1), 1);
            check.due("it is first", lister.seen(0, 0, 0), n == 0 ? 512 : 513);
        }
        DoorLister none = new DoorLister();
        none.feed(0, 0, 0, 0, 0);
        check.due("an empty code", none.run(3, 20), 0);
        check.due("empties it, too", none.count(-1, 1), 0);
    }

    private static void notSoMany(Check check) {
        check.promise(11, "it has not so many (the tape stays)");
        DoorLister lister = new DoorLister();
        Kinds.echo(lister, 0);
        check.due("one of none", lister.run(0, 1), -1);
        lister.feed(0x01020304, 0, 0, 0, 0);
        int[] wrong = {21, 22, 80, 81, Kinds.TOP, -1, -20, Kinds.BOTTOM};
        for (int n : wrong) {
            check.due("run by " + n, lister.run(0, n), -1);
            check.due("the tape stays", lister.count(-1, 1), 20);
        }
        check.due("nothing was seen", lister.count(0, 3), 0);
        check.due("no run was", lister.ended(), -1);
        check.due("its bytes stay", lister.run(0, 4), 4);
        check.due("in their order", lister.seen(0, 0, 0), 2 | 4 | 8 | 16);
        for (int i = 0; i < 4; i++) {
            lister.feed(0, 0, 0, 0, 0);
        }
        check.due("81 of 80", lister.run(0, 81), -1);
        check.due("80 stay", lister.count(-1, 1), 80);
    }

    private static void noSuchProgram(Check check) {
        check.promise(11, "NONE: no such one");
        DoorLister lister = new DoorLister();
        Kinds.echo(lister, 0);
        Kinds.echo(lister, 3);
        lister.feed(0, 0, 0, 0, 0);
        for (int out : Kinds.outside(3)) {
            check.due("p " + out, lister.run(out, 0), -1);
            check.due("p " + out, lister.run(out, 20), -1);
        }
        check.terms(11, "changes nothing but the tape, where it is told");
        check.due("the tape stays", lister.count(-1, 1), 20);
        check.due("no run was", lister.ended(), -1);
        check.due("the last there is", lister.run(3, 20), 20);
    }

    private static void callsMade(Check check) {
        check.promise(11, "how many CALLS it made");
        DoorLister lister = new DoorLister();
        check.due("none", lister.run(2, 0), 0);
        for (int i = 0; i < 24; i++) {
            lister.code(2, Kinds.CALL, 0, 0, 0);
        }
        check.due("each as often as it is made", lister.run(2, 0), 24);
        check.due("again", lister.run(2, 0), 24);
        check.due("though it is one", lister.count(2, 3), 1);
        lister.change(2, 23, Kinds.GO, 0, 0, 0);
        check.due("the most that can be", lister.run(2, 0), 480);
    }

    private static void kindsInRuns(Check check) {
        check.promise(11, "how many CALLS it made");
        DoorLister lister = Kinds.of(Kinds.row(Kinds.SET, 0, 30), Kinds.row(Kinds.ADD, 0, 5), CALL,
                Kinds.row(Kinds.COPY, 1), CALL, Kinds.row(Kinds.POINT), Kinds.row(Kinds.SET, 1, 29),
                Kinds.row(Kinds.MASK, 1, 22), CALL, Kinds.row(Kinds.COPY, 0), CALL, Kinds.row(Kinds.IF, 0, 20, 13),
                Kinds.row(Kinds.IF, 0, 21, 14), CALL, Kinds.row(Kinds.SET, 1, 0), CALL, CALL, Kinds.row(Kinds.GO, 0, 0, 19),
                CALL, Kinds.row(Kinds.END), CALL);
        check.due("of all kinds", lister.run(0, 0), 6);
        check.due("start, door 3", lister.seen(0, 0, 3), 1 | 8);
        check.due("after, door 3", lister.seen(0, 1, 3), 1 << 20);
        check.due("after, door 20", lister.seen(0, 1, 20), 1 << 20 | 1);
        check.due("at start", lister.count(0, 3), 2);
        check.due("after", lister.count(0, 4), 3);
        check.terms(11, "modulo 32");
        int[][] sums = {{31, 1, 0}, {31, 31, 30}, {30, 1, 31}, {0, 0, 0}};
        for (int[] sum : sums) {
            for (int x = 0; x < 2; x++) {
                DoorLister add = Kinds.of(Kinds.row(Kinds.SET, x, sum[0]), Kinds.row(Kinds.ADD, x, sum[1]), CALL);
                add.run(0, 0);
                check.due("ADD " + x, add.seen(0, 0, x == 0 ? sum[2] : 0), x == 0 ? 1 : 1 << sum[2]);
            }
        }
    }

    private static void beginsAnew(Check check) {
        check.terms(11, "both 0 at the beginning");
        DoorLister lister = Kinds.of(CALL, Kinds.row(Kinds.POINT), Kinds.row(Kinds.READ, 0), Kinds.row(Kinds.READ, 1), CALL);
        lister.feed(-1, -1, -1, -1, -1);
        check.due("a run", lister.run(0, 2), 2);
        lister.feed(-1, -1, -1, -1, -1);
        check.due("another one", lister.run(0, 2), 2);
        check.due("each with door 0 and argument 0, at start", lister.seen(0, 0, 0), 1);
        check.due("alone", lister.count(0, 3), 1);
        lister.copy(1, 0);
        lister.run(1, 0);
        check.due("of another program, too", lister.seen(1, 0, 0), 1);
    }

    private static void noByte(Check check) {
        check.terms(12, "where there is none the RUN ends");
        DoorLister lister = Kinds.of(CALL, Kinds.row(Kinds.READ, 1), CALL, Kinds.row(Kinds.READ, 0), CALL);
        check.due("calls before the first READ", lister.run(0, 0), 1);
        check.due("no byte", lister.ended(), 1);
        lister.feed(0, 0, 0, 0, 0);
        check.due("calls before the second READ", lister.run(0, 1), 2);
        check.due("no byte, though the tape had more", lister.ended(), 1);
        lister.feed(0, 0, 0, 0, 0);
        check.due("all calls", lister.run(0, 2), 3);
        check.due("END", lister.ended(), 0);
        DoorLister last = Kinds.of(CALL, Kinds.row(Kinds.READ, 1));
        check.due("a READ in the last place", last.run(0, 0), 1);
        check.due("no byte", last.ended(), 1);
    }

    /** So many calls, then a loop of calls: one instruction more with each. */
    private static void behind500(Check check) {
        check.terms(12, "It ends behind 500 INSTRUCTIONS, too");
        DoorLister two = Kinds.of(CALL, Kinds.row(Kinds.GO, 0, 0, 0));
        check.due("GO is the 500th", two.run(0, 0), 250);
        check.due("by 500", two.ended(), 2);
        DoorLister three = Kinds.of(CALL, CALL, Kinds.row(Kinds.GO, 0, 0, 1));
        check.due("CALL is the 500th", three.run(0, 0), 251);
        check.due("by 500", three.ended(), 2);
        DoorLister round = Kinds.of(CALL, Kinds.row(Kinds.ADD, 1, 1), Kinds.row(Kinds.IF, 1, 0, 0), Kinds.row(Kinds.GO));
        check.due("all kinds count", round.run(0, 0), 125);
        check.due("by 500", round.ended(), 2);
        DoorLister alone = Kinds.of(Kinds.row(Kinds.GO, 0, 0, 0));
        check.due("without a call", alone.run(0, 0), 0);
        check.due("by 500", alone.ended(), 2);
        DoorLister last = Kinds.of(Kinds.row(Kinds.ADD, 1, 1), Kinds.row(Kinds.IF, 1, 0, 0), Kinds.row(Kinds.GO, 0, 0, 4),
                CALL, Kinds.row(Kinds.POINT), CALL, Kinds.row(Kinds.GO, 0, 0, 5));
        check.due("4 before, then 248 rounds of two", last.run(0, 0), 248);
        check.due("by 500", last.ended(), 2);
    }

    /** Ten instructions for each byte that is 0; behind the byte 1 it falls out of the loop, and calls so often. */
    private static DoorLister tenEach(int more) {
        DoorLister lister = Kinds.of(Kinds.row(Kinds.READ, 0));
        for (int i = 0; i < 8; i++) {
            lister.code(0, Kinds.CALL, 0, 0, 0);
        }
        lister.code(0, Kinds.IF, 0, 1, 0);
        for (int i = 0; i < more; i++) {
            lister.code(0, Kinds.CALL, 0, 0, 0);
        }
        return lister;
    }

    private static void feedZerosAndOne(DoorLister lister, int zeros) {
        int[] words = new int[20];
        words[zeros / 4] = 1 << 24 - zeros % 4 * 8;
        for (int i = 0; i < 20; i += 5) {
            lister.feed(words[i], words[i + 1], words[i + 2], words[i + 3], words[i + 4]);
        }
    }

    private static void dueEnd(Check check, String told, DoorLister lister, int[] zerosAndBytes, int calls, int end) {
        feedZerosAndOne(lister, zerosAndBytes[0]);
        check.due(told, lister.run(0, zerosAndBytes[1]), calls);
        check.due(told + ", ended", lister.ended(), end);
    }

    private static void endIsNone(Check check) {
        check.terms(12, "(END is none)");
        dueEnd(check, "499, then behind the last", tenEach(9), new int[] {48, 80}, 48 * 8 + 8 + 9, 0);
        dueEnd(check, "500, then behind the last", tenEach(0), new int[] {49, 80}, 400, 0);
        DoorLister told = tenEach(0);
        told.code(0, Kinds.END, 0, 0, 0);
        dueEnd(check, "500, then an END in the code", told, new int[] {49, 80}, 400, 0);
        dueEnd(check, "500, then one more", tenEach(1), new int[] {49, 80}, 400, 2);
        dueEnd(check, "500, the last a CALL, then behind the last", tenEach(10), new int[] {48, 80}, 48 * 8 + 8 + 10, 0);
        dueEnd(check, "500, then a READ with a byte", tenEach(0), new int[] {70, 51}, 400, 2);
        dueEnd(check, "500, then a READ without a byte", tenEach(0), new int[] {70, 50}, 400, 2);
        dueEnd(check, "490, then a READ without a byte", tenEach(0), new int[] {70, 49}, 392, 1);
    }

    private static void endedLatest(Check check) {
        check.promise(12, "By what the latest RUN ended");
        DoorLister lister = Kinds.of(Kinds.row(Kinds.END), CALL);
        Kinds.write(lister, 1, Kinds.row(Kinds.READ, 0));
        Kinds.write(lister, 2, Kinds.row(Kinds.GO, 0, 0, 0));
        Kinds.write(lister, 3, Kinds.row(Kinds.GO, 0, 0, 24));
        int[][] runs = {{2, 2}, {0, 0}, {1, 1}, {3, 0}, {2, 2}, {1, 1}, {0, 0}};
        for (int[] run : runs) {
            check.due("no call", lister.run(run[0], 0), 0);
            check.due("program " + run[0], lister.ended(), run[1]);
            check.due("a refused run", lister.run(0, 1), -1);
            check.due("is none", lister.ended(), run[1]);
            check.due("asked again", lister.ended(), run[1]);
        }
        lister.copy(2, 3);
        check.due("another code leaves it", lister.ended(), 0);
    }

    private static void endedNone(Check check) {
        check.promise(12, "NONE: there was none");
        DoorLister lister = new DoorLister();
        check.due("of a new object", lister.ended(), -1);
        Kinds.echo(lister, 0);
        lister.feed(0, 0, 0, 0, 0);
        lister.needed(0, 0, 0);
        lister.run(0, 21);
        lister.run(4, 0);
        check.due("behind refused ones", lister.ended(), -1);
        lister.run(0, 0);
        check.due("behind one", lister.ended(), 1);
    }

    private static void seenInPhases(Check check) {
        check.terms(13, "CALLS that a RUN made are SEEN of that program in their PHASES");
        DoorLister lister = new DoorLister();
        Kinds.write(lister, 3, CALL, Kinds.row(Kinds.POINT), Kinds.row(Kinds.SET, 0, 31), Kinds.row(Kinds.SET, 1, 31), CALL);
        lister.run(3, 0);
        check.due("at start", lister.seen(3, 0, 0), 1);
        check.due("not at start", lister.seen(3, 0, 31), 0);
        check.due("after", lister.seen(3, 1, 31), 1 << 31);
        check.due("not after", lister.seen(3, 1, 0), 0);
        for (int p = 0; p < 3; p++) {
            check.due("not of another one", lister.count(p, 3) + lister.count(p, 4), 0);
        }
        DoorLister all = Kinds.of(CALL, Kinds.row(Kinds.ADD, 1, 1), Kinds.row(Kinds.GO, 0, 0, 0));
        all.run(0, 0);
        check.due("all of them", all.seen(0, 0, 0), -1);
    }

    private static void seenStays(Check check) {
        check.terms(13, "CODE that is changed leaves them");
        DoorLister lister = Kinds.of(Kinds.row(Kinds.SET, 1, 4), CALL);
        lister.run(0, 0);
        lister.change(0, 0, Kinds.SET, 1, 5, 0);
        check.due("a change", lister.seen(0, 0, 0), 16);
        lister.run(0, 0);
        check.due("a run adds to it", lister.seen(0, 0, 0), 48);
        lister.change(0, 1, Kinds.END, 0, 0, 0);
        lister.run(0, 0);
        check.due("a run without calls, too", lister.seen(0, 0, 0), 48);
    }

    private static void seenNone(Check check) {
        check.promise(13, "0: none");
        DoorLister lister = new DoorLister();
        Kinds.callAll(lister, 0);
        lister.feed(0x03090000, 0, 0, 0, 0);
        lister.run(0, 2);
        for (int door = 0; door < 32; door++) {
            check.due("door " + door, lister.seen(0, 0, door), door == 3 ? 512 : 0);
            check.due("door " + door + " of another one", lister.seen(1, 0, door), 0);
        }
    }

    private static void seenNoSuchOnes(Check check) {
        check.promise(13, "no such ones");
        DoorLister lister = new DoorLister();
        for (int p = 0; p < 4; p++) {
            Kinds.write(lister, p, CALL, Kinds.row(Kinds.POINT), Kinds.row(Kinds.SET, 0, 31), CALL);
            lister.run(p, 0);
            check.due("the last ones there are", lister.seen(p, 1, 31), 1);
        }
        for (int out : Kinds.outside(3)) {
            check.due("p " + out, lister.seen(out, 0, 0), 0);
        }
        for (int out : Kinds.outside(1)) {
            check.due("phase " + out, lister.seen(0, out, 0), 0);
        }
        for (int out : Kinds.outside(31)) {
            check.due("door " + out, lister.seen(0, 0, out), 0);
            check.due("door " + out + " after", lister.seen(0, 1, out), 0);
        }
    }
}
