/** Promises 5 to 7: what programs need, and its spans. */
public final class ListTest {
    private static final int[] CALL = Kinds.row(Kinds.CALL, 1, 31, 24);
    private static final int[] READ0 = Kinds.row(Kinds.READ, 0);
    private static final int[] READ1 = Kinds.row(Kinds.READ, 1);

    public static void main(String[] args) {
        Check check = new Check("ListTest");
        beginning(check);
        sets(check);
        adds(check);
        copiesAndMasks(check);
        jumps(check);
        ifs(check);
        reads(check);
        phases(check);
        partsNotLookedAt(check);
        behindTheLast(check);
        howeverLong(check);
        bitsOfAnInt(check);
        neededNone(check);
        neededNoSuchOnes(check);
        spansSideBySide(check);
        spansByDoors(check);
        spansMost(check);
        spansNoSuchOnes(check);
        spanForOthers(check);
        check.end();
    }

    private static int needs(int door, int[]... rows) {
        return Kinds.of(rows).needed(0, 0, door);
    }

    private static void beginning(Check check) {
        check.terms(5, "both 0 at the beginning");
        check.due("door and argument", needs(0, CALL), 1);
        check.due("all calls", Kinds.of(CALL).count(0, 1), 1);
        check.terms(5, "A program begins at INSTRUCTION 0, in PHASE 0 (START)");
        check.due("not in phase 1", Kinds.of(CALL).needed(0, 1, 0), 0);
        check.due("not at 1", needs(0, Kinds.row(Kinds.END), CALL), 0);
    }

    private static void sets(Check check) {
        check.terms(5, "0 SET: x is n");
        check.due("SET 0 to 31", needs(31, Kinds.row(Kinds.SET, 0, 31), CALL), 1);
        check.due("SET 1 to 31", needs(0, Kinds.row(Kinds.SET, 1, 31), CALL), 1 << 31);
        check.due("SET 0 to 0", needs(0, Kinds.row(Kinds.SET, 0, 9), Kinds.row(Kinds.SET, 0, 0), CALL), 1);
        check.due("SET 1 to 0", needs(0, Kinds.row(Kinds.SET, 1, 9), Kinds.row(Kinds.SET, 1, 0), CALL), 1);
    }

    /** For each register: what 31, 30 and 0 and some number come to, at the wrap-around and next to it. */
    private static void adds(Check check) {
        check.terms(5, "1 ADD: x is what it was and n, modulo 32");
        int[][] sums = {{31, 0, 31}, {31, 1, 0}, {30, 1, 31}, {31, 31, 30}, {1, 31, 0}, {0, 31, 31}, {0, 0, 0}, {16, 16, 0},
            {29, 7, 4}};
        for (int[] sum : sums) {
            String told = sum[0] + " and " + sum[1];
            check.due("ADD 0: " + told,
                    needs(sum[2], Kinds.row(Kinds.SET, 0, sum[0]), Kinds.row(Kinds.ADD, 0, sum[1]), CALL), 1);
            check.due("ADD 1: " + told,
                    needs(0, Kinds.row(Kinds.SET, 1, sum[0]), Kinds.row(Kinds.ADD, 1, sum[1]), CALL), 1 << sum[2]);
        }
        check.due("all that is READ in 1", needs(0, READ1, Kinds.row(Kinds.ADD, 1, 31), CALL), -1);
        check.due("some that is READ in 1", needs(0, READ1, Kinds.row(Kinds.MASK, 1, 1), Kinds.row(Kinds.ADD, 1, 31), CALL),
                1 << 31 | 1);
        check.due("all that is READ in 0", Kinds.of(READ0, Kinds.row(Kinds.ADD, 0, 31), CALL).count(0, 1), 32);
    }

    private static void copiesAndMasks(Check check) {
        check.terms(5, "2 COPY: x is what the other one is");
        check.due("COPY 0", needs(6, Kinds.row(Kinds.SET, 1, 6), Kinds.row(Kinds.COPY, 0, 3), CALL), 64);
        check.due("COPY 1", needs(6, Kinds.row(Kinds.SET, 0, 6), Kinds.row(Kinds.COPY, 1, 3), CALL), 64);
        check.due("COPY 0 of 0", needs(0, Kinds.row(Kinds.SET, 0, 6), Kinds.row(Kinds.COPY, 0), CALL), 1);
        check.due("COPY 1 of 0", needs(0, Kinds.row(Kinds.SET, 1, 6), Kinds.row(Kinds.COPY, 1), CALL), 1);
        check.due("COPY 0 of 31", needs(31, Kinds.row(Kinds.SET, 1, 31), Kinds.row(Kinds.COPY, 0), CALL), 1 << 31);
        check.due("COPY 1 of 31", needs(31, Kinds.row(Kinds.SET, 0, 31), Kinds.row(Kinds.COPY, 1), CALL), 1 << 31);
        check.terms(5, "4 MASK: x is x & n (bit by bit)");
        check.due("MASK 0", needs(9, Kinds.row(Kinds.SET, 0, 27), Kinds.row(Kinds.MASK, 0, 13), CALL), 1);
        check.due("MASK 1", needs(0, Kinds.row(Kinds.SET, 1, 27), Kinds.row(Kinds.MASK, 1, 13), CALL), 512);
        check.due("MASK 1 of 0", needs(0, Kinds.row(Kinds.MASK, 1, 31), CALL), 1);
        check.due("MASK 0 of 0", needs(0, Kinds.row(Kinds.MASK, 0, 31), CALL), 1);
        check.due("MASK by 0", needs(0, READ1, Kinds.row(Kinds.MASK, 1, 0), CALL), 1);
        check.due("MASK by 31", needs(0, READ1, Kinds.row(Kinds.MASK, 1, 31), CALL), -1);
        check.due("MASK 31 by 31", needs(31, Kinds.row(Kinds.SET, 0, 31), Kinds.row(Kinds.MASK, 0, 31), CALL), 1);
    }

    private static void jumps(Check check) {
        check.terms(5, "6 GO: it goes on at to");
        check.due("over one", needs(0, Kinds.row(Kinds.GO, 1, 5, 2), Kinds.row(Kinds.SET, 1, 3), CALL), 1);
        check.due("to the next one", needs(0, Kinds.row(Kinds.GO, 0, 0, 1), CALL), 1);
        check.due("to itself", needs(0, Kinds.row(Kinds.GO, 0, 0, 0), CALL), 0);
        check.terms(5, "9 END: nothing goes on");
        check.due("not at the next one, nor at to", needs(0, Kinds.row(Kinds.END, 0, 31, 1), CALL), 0);
        check.due("a call before", needs(0, CALL, Kinds.row(Kinds.END), Kinds.row(Kinds.SET, 1, 1), CALL), 1);
    }

    private static void ifs(Check check) {
        check.terms(5, "5 IF: if x is below n, it goes on at to");
        int[] three = Kinds.row(Kinds.SET, 1, 3);
        for (int x = 0; x < 2; x++) {
            check.due("0 is below 1", needs(0, Kinds.row(Kinds.IF, x, 1, 2), three, CALL), 1);
            check.due("0 is not below 0", needs(0, Kinds.row(Kinds.IF, x, 0, 2), three, CALL), 8);
            DoorLister like = Kinds.of(Kinds.row(Kinds.SET, x, 7), Kinds.row(Kinds.IF, x, 7, 3), CALL);
            check.due("7 is not below 7", like.count(0, 1), 1);
            like.change(0, 1, Kinds.IF, x, 8, 3);
            check.due("7 is below 8", like.count(0, 1), 0);
            DoorLister last = Kinds.of(Kinds.row(Kinds.SET, x, 31), Kinds.row(Kinds.IF, x, 31, 3), CALL);
            check.due("31 is not below 31", last.count(0, 1), 1);
            last.change(0, 0, Kinds.SET, x, 30, 0);
            check.due("30 is below 31", last.count(0, 1), 0);
            check.due("to the next one", needs(0, Kinds.row(Kinds.IF, x, 1, 1), CALL), 1);
        }
        check.due("READ 1, below 5 leave", needs(0, READ1, Kinds.row(Kinds.IF, 1, 5, 3), CALL), ~31);
        check.due("READ 1, below 31 leave", needs(0, READ1, Kinds.row(Kinds.IF, 1, 31, 3), CALL), 1 << 31);
        check.due("READ 1, below 0 leave", needs(0, READ1, Kinds.row(Kinds.IF, 1, 0, 3), CALL), -1);
        check.due("a branch of a branch", needs(0, READ1, Kinds.row(Kinds.IF, 1, 16, 4), Kinds.row(Kinds.IF, 1, 20, 5),
                Kinds.row(Kinds.END), Kinds.row(Kinds.END), CALL), 15 << 16);
        check.due("READ 0, 4 leaves", needs(4, READ0, Kinds.row(Kinds.IF, 0, 5, 3), CALL), 0);
        check.due("READ 0, 5 stays", needs(5, READ0, Kinds.row(Kinds.IF, 0, 5, 3), CALL), 1);
    }

    private static void reads(Check check) {
        check.terms(5, "3 READ: x is something from 0 to 31");
        check.due("READ 1", needs(0, READ1, CALL), -1);
        for (int door = 0; door < 32; door++) {
            check.due("READ 0", needs(door, READ0, CALL), 1);
        }
        check.due("READ both", Kinds.of(READ0, READ1, CALL).count(0, 1), 1024);
        check.due("READ both, 0 behind 1", Kinds.of(READ1, READ0, CALL).count(0, 1), 1024);
        check.due("READ 0, COPY 1", needs(17, READ0, Kinds.row(Kinds.COPY, 1), CALL), 1 << 17);
        check.due("READ 1, COPY 0", needs(17, READ1, Kinds.row(Kinds.COPY, 0), CALL), 1 << 17);
        check.due("READ 1, MASK 1", needs(0, READ1, Kinds.row(Kinds.MASK, 1, 18), CALL), 1 | 4 | 1 << 16 | 1 << 18);
        DoorLister rounds = Kinds.of(Kinds.row(Kinds.POINT), Kinds.row(Kinds.ADD, 1, 1), READ0, CALL,
                Kinds.row(Kinds.GO, 0, 0, 1));
        check.due("READ 0 with each number in 1", rounds.count(0, 2), 1024);
    }

    private static void phases(Check check) {
        check.terms(5, "8 POINT: it is in PHASE 1 (AFTER) from then on, for ever");
        DoorLister lister = new DoorLister();
        Kinds.write(lister, 2, CALL, Kinds.row(Kinds.POINT), Kinds.row(Kinds.ADD, 1, 1), CALL, Kinds.row(Kinds.POINT),
                Kinds.row(Kinds.IF, 1, 3, 0));
        check.due("at start", lister.needed(2, 0, 0), 1);
        check.due("after, a second POINT and a jump before it, too", lister.needed(2, 1, 0), 2 | 4 | 8);
        DoorLister both = Kinds.of(READ0, Kinds.row(Kinds.IF, 0, 16, 3), Kinds.row(Kinds.POINT), CALL);
        check.due("one call without it", both.needed(0, 0, 15), 1);
        check.due("not behind it", both.needed(0, 1, 15), 0);
        check.due("another one behind it", both.needed(0, 1, 16), 1);
        check.due("not without it", both.needed(0, 0, 16), 0);
    }

    private static void partsNotLookedAt(Check check) {
        check.terms(5, "and not looked at");
        DoorLister plain = Kinds.of(Kinds.row(Kinds.READ, 1), Kinds.row(Kinds.COPY, 0), Kinds.row(Kinds.POINT), CALL,
                Kinds.row(Kinds.END));
        DoorLister odd = Kinds.of(Kinds.row(Kinds.READ, 1, 3, 4), Kinds.row(Kinds.COPY, 0, 31, 0),
                Kinds.row(Kinds.POINT, 1, 9, 0), Kinds.row(Kinds.CALL, 0, 30, 1), Kinds.row(Kinds.END, 1, 31, 3));
        for (int door = 0; door < 32; door++) {
            check.due("calls", odd.needed(0, 1, door), plain.needed(0, 1, door));
        }
        check.due("how many", odd.count(0, 2), 32);
        check.due("SET has no to", needs(0, Kinds.row(Kinds.SET, 1, 4, 2), CALL), 16);
        check.due("ADD has no to", needs(0, Kinds.row(Kinds.ADD, 1, 4, 2), CALL), 16);
        check.due("MASK has no to", needs(0, Kinds.row(Kinds.MASK, 1, 4, 2), CALL), 1);
        check.due("GO has no x and n", needs(0, Kinds.row(Kinds.GO, 1, 31, 1), CALL), 1);
    }

    private static void behindTheLast(Check check) {
        check.terms(5, "What is behind the last INSTRUCTION is END");
        DoorLister lister = Kinds.of(Kinds.row(Kinds.GO, 0, 0, 2), CALL);
        check.due("GO just behind", lister.needed(0, 0, 0), 0);
        lister.code(0, Kinds.CALL, 0, 0, 0);
        check.due("until something is there", lister.needed(0, 0, 0), 1);
        lister.change(0, 0, Kinds.GO, 0, 0, 24);
        check.due("GO far behind", lister.needed(0, 0, 0), 0);
        lister.change(0, 0, Kinds.IF, 0, 1, 24);
        check.due("IF far behind", lister.needed(0, 0, 0), 0);
        DoorLister full = Kinds.of(READ0, Kinds.row(Kinds.IF, 0, 16, 24));
        for (int i = 2; i < 24; i++) {
            full.code(0, Kinds.CALL, 0, 0, 0);
        }
        check.due("24 is END behind 24 of them", full.count(0, 1), 16);
        check.due("15 is gone", full.needed(0, 0, 15), 0);
        check.due("the way to the rest", full.steps(0, 0, 16, 0), 3);
    }

    private static void howeverLong(Check check) {
        check.terms(5, "whatever is READ, however long it runs");
        int[] back = Kinds.row(Kinds.GO, 0, 0, 0);
        check.due("all sums", needs(0, CALL, Kinds.row(Kinds.ADD, 1, 1), back), -1);
        check.due("even sums", needs(0, CALL, Kinds.row(Kinds.ADD, 1, 6), back), 0x55555555);
        DoorLister far = Kinds.of(Kinds.row(Kinds.ADD, 1, 1), Kinds.row(Kinds.IF, 1, 1, 3), back, CALL,
                Kinds.row(Kinds.ADD, 0, 1), back);
        check.due("longer than any run", far.needed(0, 0, 31), 1);
        check.due("a run does not come to it", far.run(0, 0), 5);
        check.due("not seen", far.seen(0, 0, 31), 0);
        DoorLister sweep = new DoorLister();
        Kinds.sweep(sweep, 0);
        check.due("behind all pairs of numbers, at start", sweep.needed(0, 0, 0), 1);
        check.due("and once more, after", sweep.needed(0, 1, 0), 1);
        check.due("nothing else", sweep.count(0, 1) + sweep.count(0, 2), 2);
        DoorLister beside = Kinds.of(READ0, Kinds.row(Kinds.IF, 0, 31, 9), Kinds.row(Kinds.SET, 0, 0),
                Kinds.row(Kinds.ADD, 1, 1), Kinds.row(Kinds.IF, 1, 1, 6), Kinds.row(Kinds.GO, 0, 0, 3),
                Kinds.row(Kinds.ADD, 0, 1), Kinds.row(Kinds.IF, 0, 31, 3), CALL, Kinds.row(Kinds.ADD, 1, 1),
                Kinds.row(Kinds.GO, 0, 0, 9));
        check.due("beside loops that never end", beside.needed(0, 0, 31), 1);
        check.due("nothing else", beside.count(0, 1), 1);
    }

    private static void bitsOfAnInt(Check check) {
        check.promise(5, "as bits (of an int)");
        for (int argument = 0; argument < 32; argument++) {
            check.due("argument " + argument, needs(0, Kinds.row(Kinds.SET, 1, argument), CALL), 1 << argument);
        }
        check.due("all of them", needs(0, READ1, CALL), -1);
    }

    private static void neededNone(Check check) {
        check.promise(5, "0: none");
        DoorLister lister = Kinds.of(Kinds.row(Kinds.SET, 0, 16), CALL);
        for (int door = 0; door < 32; door++) {
            check.due("door " + door, lister.needed(0, 0, door), door == 16 ? 1 : 0);
            check.due("the other phase", lister.needed(0, 1, door), 0);
            check.due("another program", lister.needed(1, 0, door), 0);
        }
    }

    private static void neededNoSuchOnes(Check check) {
        check.promise(5, "no such ones");
        DoorLister lister = new DoorLister();
        for (int p = 0; p < 4; p++) {
            Kinds.callAll(lister, p);
            check.due("the last ones there are", lister.needed(p, 1, 31), -1);
        }
        for (int out : Kinds.outside(3)) {
            check.due("p " + out, lister.needed(out, 0, 0), 0);
        }
        for (int out : Kinds.outside(1)) {
            check.due("phase " + out, lister.needed(0, out, 0), 0);
        }
        for (int out : Kinds.outside(31)) {
            check.due("door " + out, lister.needed(0, 0, out), 0);
        }
    }

    private static void dueSpans(Check check, DoorLister lister, int p, int[]... want) {
        check.due("spans", lister.spans(p, 0), want.length);
        for (int i = 0; i < want.length; i++) {
            for (int what = 0; what < 3; what++) {
                check.due("span(" + p + ", 0, " + i + ", " + what + ")", lister.span(p, 0, i, what), want[i][what]);
            }
        }
        check.due("behind the last", lister.span(p, 0, want.length, 0), -1);
    }

    private static void spansSideBySide(Check check) {
        check.terms(6, "that are NEEDED side by side, as many as can be");
        dueSpans(check, Kinds.of(READ1, CALL), 0, new int[] {0, 0, 31});
        dueSpans(check, Kinds.of(CALL, Kinds.row(Kinds.SET, 1, 31), CALL), 0, new int[] {0, 0, 0}, new int[] {0, 31, 31});
        dueSpans(check, Kinds.of(CALL, Kinds.row(Kinds.ADD, 1, 1), CALL, Kinds.row(Kinds.ADD, 1, 2), CALL), 0,
                new int[] {0, 0, 1}, new int[] {0, 3, 3});
        dueSpans(check, Kinds.of(Kinds.row(Kinds.SET, 1, 30), CALL, Kinds.row(Kinds.SET, 1, 31), CALL), 0,
                new int[] {0, 30, 31});
        dueSpans(check, Kinds.of(Kinds.row(Kinds.SET, 1, 31), CALL, Kinds.row(Kinds.SET, 1, 0),
                Kinds.row(Kinds.SET, 0, 1), CALL), 0, new int[] {0, 31, 31}, new int[] {1, 0, 0});
        dueSpans(check, new DoorLister(), 0);
    }

    private static void spansByDoors(Check check) {
        check.terms(7, "by DOORS, then ARGUMENTS");
        DoorLister lister = new DoorLister();
        Kinds.write(lister, 1, READ1, Kinds.row(Kinds.MASK, 1, 27), CALL, Kinds.row(Kinds.SET, 0, 31), READ1, CALL,
                Kinds.row(Kinds.SET, 0, 12), Kinds.row(Kinds.SET, 1, 31), CALL, Kinds.row(Kinds.SET, 1, 0), CALL);
        dueSpans(check, lister, 1, new int[] {0, 0, 3}, new int[] {0, 8, 11}, new int[] {0, 16, 19}, new int[] {0, 24, 27},
                new int[] {12, 0, 0}, new int[] {12, 31, 31}, new int[] {31, 0, 31});
        check.due("the other phase has none", lister.spans(1, 1), 0);
        check.due("none of it", lister.span(1, 1, 0, 0), -1);
    }

    private static void spansMost(Check check) {
        check.promise(6, "How many SPANS its LIST of a PHASE has");
        DoorLister most = Kinds.of(READ0, READ1, Kinds.row(Kinds.MASK, 1, 30), Kinds.row(Kinds.POINT), CALL);
        check.due("the most that can be", most.spans(0, 1), 512);
        check.due("the other phase", most.spans(0, 0), 0);
        check.due("its last door", most.span(0, 1, 511, 0), 31);
        check.due("its first argument", most.span(0, 1, 511, 1), 30);
        check.due("its last argument", most.span(0, 1, 511, 2), 30);
        check.due("one more", most.span(0, 1, 512, 0), -1);
    }

    private static void spansNoSuchOnes(Check check) {
        check.promise(6, "NONE: no such ones");
        DoorLister lister = new DoorLister();
        for (int p = 0; p < 4; p++) {
            Kinds.callAll(lister, p);
            check.due("all there are", lister.spans(p, 1), 32);
        }
        for (int out : Kinds.outside(3)) {
            check.due("p " + out, lister.spans(out, 0), -1);
        }
        for (int out : Kinds.outside(1)) {
            check.due("phase " + out, lister.spans(0, out), -1);
        }
    }

    private static void spanForOthers(Check check) {
        check.promise(7, "NONE for others");
        DoorLister lister = new DoorLister();
        Kinds.callAll(lister, 0);
        Kinds.callAll(lister, 3);
        for (int what = 0; what < 3; what++) {
            for (int out : Kinds.outside(3)) {
                check.due("p " + out, lister.span(out, 0, 0, what), -1);
            }
            for (int out : Kinds.outside(1)) {
                check.due("phase " + out, lister.span(0, out, 0, what), -1);
            }
            for (int out : Kinds.outside(31)) {
                check.due("i " + out, lister.span(0, 0, out, what), -1);
            }
        }
        for (int out : Kinds.outside(2)) {
            check.due("what " + out, lister.span(3, 1, 31, out), -1);
        }
        check.due("the last there is", lister.span(3, 1, 31, 2), 31);
        check.due("of an empty one", lister.span(1, 0, 0, 0), -1);
    }
}
