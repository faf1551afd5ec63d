/** Promises 8 and 9: the shortest way to a call, and of like ones the least. */
public final class WayTest {
    private static final int[] CALL = Kinds.row(Kinds.CALL);
    private static final int[] END = Kinds.row(Kinds.END);
    private static final int[] READ0 = Kinds.row(Kinds.READ, 0);
    private static final int[] READ1 = Kinds.row(Kinds.READ, 1);

    public static void main(String[] args) {
        Check check = new Check("WayTest");
        theCallToo(check);
        straight(check);
        phases(check);
        asFewAsCanBe(check);
        leastOfLikeOnes(check);
        leastOfManyWays(check);
        ifToTheNextOne(check);
        asOftenAsItIsGone(check);
        longest(check);
        manyMeet(check);
        followsTheCode(check);
        notNeeded(check);
        stepsNoSuchOnes(check);
        wayNoneSuch(check);
        check.end();
    }

    private static void dueWay(Check check, DoorLister lister, int[] call, int... want) {
        int steps = lister.steps(call[0], call[1], call[2], call[3]);
        check.due("steps", steps, want.length);
        for (int i = 0; i < want.length; i++) {
            check.due("way " + i, lister.way(call[0], call[1], call[2], call[3], i), want[i]);
        }
        check.due("behind it", lister.way(call[0], call[1], call[2], call[3], want.length), -1);
        check.due("before it", lister.way(call[0], call[1], call[2], call[3], -1), -1);
    }

    private static void theCallToo(Check check) {
        check.promise(8, "(the CALL, too)");
        for (int p = 0; p < 4; p++) {
            DoorLister lister = new DoorLister();
            lister.code(p, Kinds.CALL, 0, 0, 0);
            check.due("the call alone", lister.steps(p, 0, 0, 0), 1);
            check.due("it is 0", lister.way(p, 0, 0, 0, 0), 0);
        }
    }

    private static void straight(Check check) {
        check.promise(9, "INSTRUCTION i of THE WAY (from 0 on)");
        DoorLister lister = new DoorLister();
        for (int i = 0; i < 23; i++) {
            lister.code(3, Kinds.READ, i % 2, 0, 0);
        }
        lister.code(3, Kinds.CALL, 0, 0, 0);
        check.due("all 24", lister.steps(3, 0, 31, 31), 24);
        for (int i = 0; i < 24; i++) {
            check.due("way " + i, lister.way(3, 0, 31, 31, i), i);
        }
        check.due("behind it", lister.way(3, 0, 31, 31, 24), -1);
    }

    private static void phases(Check check) {
        check.terms(8, "THE WAY to a CALL in a PHASE");
        DoorLister lister = Kinds.of(CALL, Kinds.row(Kinds.POINT), READ1, CALL);
        dueWay(check, lister, new int[] {0, 0, 0, 0}, 0);
        dueWay(check, lister, new int[] {0, 1, 0, 0}, 0, 1, 2, 3);
        dueWay(check, lister, new int[] {0, 1, 0, 31}, 0, 1, 2, 3);
        DoorLister back = Kinds.of(CALL, Kinds.row(Kinds.POINT), Kinds.row(Kinds.GO, 0, 0, 0));
        dueWay(check, back, new int[] {0, 1, 0, 0}, 0, 1, 2, 0);
    }

    private static void asFewAsCanBe(Check check) {
        check.terms(8, "as few as can be");
        DoorLister lister = Kinds.of(READ1, Kinds.row(Kinds.IF, 1, 1, 6), Kinds.row(Kinds.SET, 1, 0),
                Kinds.row(Kinds.SET, 1, 0), CALL, END, CALL);
        dueWay(check, lister, new int[] {0, 0, 0, 0}, 0, 1, 6);
        DoorLister late = Kinds.of(READ1, Kinds.row(Kinds.IF, 1, 31, 4), CALL, END, Kinds.row(Kinds.SET, 1, 31), CALL);
        dueWay(check, late, new int[] {0, 0, 0, 31}, 0, 1, 2);
    }

    /** Two ways of the same length: by IF to 5, or on at 2. */
    private static void leastOfLikeOnes(Check check) {
        check.terms(9, "of like ones the least row of their numbers");
        DoorLister lister = Kinds.of(READ0, Kinds.row(Kinds.IF, 0, 16, 5), Kinds.row(Kinds.SET, 0, 3), CALL, END,
                Kinds.row(Kinds.SET, 0, 3), CALL);
        dueWay(check, lister, new int[] {0, 0, 3, 0}, 0, 1, 2, 3);
        lister.change(0, 2, Kinds.SET, 0, 4, 0);
        dueWay(check, lister, new int[] {0, 0, 3, 0}, 0, 1, 5, 6);
        dueWay(check, lister, new int[] {0, 0, 4, 0}, 0, 1, 2, 3);
        DoorLister back = Kinds.of(Kinds.row(Kinds.GO, 0, 0, 4), Kinds.row(Kinds.SET, 0, 3), CALL, END, READ0,
                Kinds.row(Kinds.IF, 0, 1, 1), Kinds.row(Kinds.SET, 0, 3), CALL);
        dueWay(check, back, new int[] {0, 0, 3, 0}, 0, 4, 5, 1, 2);
        back.change(0, 5, Kinds.IF, 0, 31, 1);
        dueWay(check, back, new int[] {0, 0, 3, 0}, 0, 4, 5, 1, 2);
    }

    /** What is least early decides, though the other row is less later on. */
    private static void leastOfManyWays(Check check) {
        check.terms(9, "of like ones the least row of their numbers");
        DoorLister lister = Kinds.of(Kinds.row(Kinds.GO, 0, 0, 6), Kinds.row(Kinds.GO, 0, 0, 5),
                Kinds.row(Kinds.GO, 0, 0, 4), END, CALL, CALL, READ1, Kinds.row(Kinds.IF, 1, 9, 2),
                Kinds.row(Kinds.SET, 1, 9), Kinds.row(Kinds.GO, 0, 0, 1));
        dueWay(check, lister, new int[] {0, 0, 0, 8}, 0, 6, 7, 2, 4);
        dueWay(check, lister, new int[] {0, 0, 0, 9}, 0, 6, 7, 8, 9, 1, 5);
        DoorLister early = Kinds.of(Kinds.row(Kinds.GO, 0, 0, 4), CALL, END, END, READ1, Kinds.row(Kinds.IF, 1, 20, 9),
                Kinds.row(Kinds.SET, 1, 1), Kinds.row(Kinds.GO, 0, 0, 11), END, Kinds.row(Kinds.SET, 1, 1),
                Kinds.row(Kinds.GO, 0, 0, 1), CALL);
        dueWay(check, early, new int[] {0, 0, 0, 1}, 0, 4, 5, 6, 7, 11);
        DoorLister both = Kinds.of(READ1, Kinds.row(Kinds.IF, 1, 20, 4), Kinds.row(Kinds.SET, 1, 1),
                Kinds.row(Kinds.GO, 0, 0, 6), Kinds.row(Kinds.SET, 1, 1), Kinds.row(Kinds.GO, 0, 0, 6), CALL);
        dueWay(check, both, new int[] {0, 0, 0, 1}, 0, 1, 2, 3, 6);
        both.change(0, 1, Kinds.IF, 1, 20, 2);
        both.change(0, 2, Kinds.SET, 1, 7, 0);
        dueWay(check, both, new int[] {0, 0, 0, 7}, 0, 1, 2, 3, 6);
    }

    /** Both branches are one row until they part, so neither stands before the other. */
    private static void ifToTheNextOne(Check check) {
        check.terms(9, "of like ones the least row of their numbers");
        DoorLister lister = Kinds.of(READ1, Kinds.row(Kinds.IF, 1, 7, 2), Kinds.row(Kinds.IF, 1, 7, 5),
                Kinds.row(Kinds.SET, 1, 0), CALL, Kinds.row(Kinds.SET, 1, 0), CALL);
        dueWay(check, lister, new int[] {0, 0, 0, 0}, 0, 1, 2, 3, 4);
    }

    private static void asOftenAsItIsGone(Check check) {
        check.terms(8, "each as often as it is gone");
        DoorLister lister = Kinds.of(Kinds.row(Kinds.ADD, 1, 1), Kinds.row(Kinds.IF, 1, 3, 0), CALL);
        dueWay(check, lister, new int[] {0, 0, 0, 3}, 0, 1, 0, 1, 0, 1, 2);
        DoorLister calls = Kinds.of(CALL, Kinds.row(Kinds.ADD, 1, 31), Kinds.row(Kinds.GO, 0, 0, 0));
        dueWay(check, calls, new int[] {0, 0, 0, 30}, 0, 1, 2, 0, 1, 2, 0);
        check.due("once round", calls.steps(0, 0, 0, 1), 31 * 3 + 1);
    }

    private static void longest(Check check) {
        check.terms(8, "each as often as it is gone");
        DoorLister sweep = new DoorLister();
        Kinds.sweep(sweep, 2);
        int once = 32 * (31 * 18 + 20);
        check.due("at start", sweep.steps(2, 0, 0, 0), once);
        check.due("after", sweep.steps(2, 1, 0, 0), once + 2 + once);
        check.due("its first", sweep.way(2, 1, 0, 0, 0), 0);
        check.due("the call at start", sweep.way(2, 1, 0, 0, once - 1), 21);
        check.due("POINT", sweep.way(2, 1, 0, 0, once), 22);
        check.due("0 again", sweep.way(2, 1, 0, 0, once + 2), 0);
        check.due("its last", sweep.way(2, 1, 0, 0, once + once + 1), 21);
        check.due("behind it", sweep.way(2, 1, 0, 0, once + once + 2), -1);
    }

    /** Ways that part and meet again and again: more of them than can be told one by one. */
    private static void manyMeet(Check check) {
        check.terms(9, "of like ones the least row of their numbers");
        DoorLister lister = Kinds.of(READ1, Kinds.row(Kinds.IF, 1, 16, 4), Kinds.row(Kinds.ADD, 0, 1),
                Kinds.row(Kinds.GO, 0, 0, 5), Kinds.row(Kinds.ADD, 0, 1), Kinds.row(Kinds.IF, 0, 31, 0), CALL);
        check.due("short rounds alone", lister.steps(0, 0, 31, 3), 31 * 4 + 1);
        check.due("a long round at the end", lister.steps(0, 0, 31, 20), 31 * 4 + 2);
        check.due("not at first", lister.way(0, 0, 31, 20, 2), 4);
        check.due("not before", lister.way(0, 0, 31, 20, 118), 4);
        check.due("then", lister.way(0, 0, 31, 20, 122), 2);
    }

    private static void followsTheCode(Check check) {
        check.promise(8, "How many INSTRUCTIONS THE WAY has");
        DoorLister lister = Kinds.of(Kinds.row(Kinds.GO, 0, 0, 2), END, CALL);
        dueWay(check, lister, new int[] {0, 0, 0, 0}, 0, 2);
        lister.change(0, 1, Kinds.CALL, 0, 0, 0);
        dueWay(check, lister, new int[] {0, 0, 0, 0}, 0, 2);
        lister.change(0, 0, Kinds.POINT, 0, 0, 0);
        dueWay(check, lister, new int[] {0, 1, 0, 0}, 0, 1);
        check.due("no more at start", lister.steps(0, 0, 0, 0), -1);
        lister.copy(1, 0);
        dueWay(check, lister, new int[] {1, 1, 0, 0}, 0, 1);
        lister.copy(0, 2);
        check.due("no more of an empty one", lister.steps(0, 1, 0, 0), -1);
    }

    private static void notNeeded(Check check) {
        DoorLister lister = Kinds.of(Kinds.row(Kinds.SET, 0, 4), Kinds.row(Kinds.SET, 1, 9), CALL);
        lister.run(0, 0);
        for (int door = 3; door < 6; door++) {
            for (int argument = 8; argument < 11; argument++) {
                boolean is = door == 4 && argument == 9;
                check.promise(8, "NONE: it is not NEEDED");
                check.due("steps", lister.steps(0, 0, door, argument), is ? 3 : -1);
                check.promise(9, "NONE: there is none such");
                check.due("way", lister.way(0, 0, door, argument, 0), is ? 0 : -1);
            }
        }
        check.promise(8, "NONE: it is not NEEDED");
        check.due("the other phase", lister.steps(0, 1, 4, 9), -1);
        check.due("another program", lister.steps(1, 0, 4, 9), -1);
        lister.change(0, 2, Kinds.END, 0, 0, 0);
        check.due("seen, but no more needed", lister.steps(0, 0, 4, 9), -1);
        check.promise(9, "NONE: there is none such");
        check.due("seen, but no more needed", lister.way(0, 0, 4, 9, 0), -1);
    }

    private static void stepsNoSuchOnes(Check check) {
        DoorLister lister = new DoorLister();
        for (int p = 0; p < 4; p++) {
            Kinds.callAll(lister, p);
        }
        check.promise(8, "no such ones");
        for (int out : Kinds.outside(3)) {
            check.due("p " + out, lister.steps(out, 0, 0, 0), -1);
        }
        for (int out : Kinds.outside(1)) {
            check.due("phase " + out, lister.steps(0, out, 0, 0), -1);
        }
        for (int out : Kinds.outside(31)) {
            check.due("door " + out, lister.steps(0, 0, out, 0), -1);
            check.due("argument " + out, lister.steps(0, 0, 0, out), -1);
        }
        check.due("the last there is", lister.steps(3, 1, 31, 31), 5);
    }

    private static void wayNoneSuch(Check check) {
        DoorLister lister = new DoorLister();
        for (int p = 0; p < 4; p++) {
            Kinds.callAll(lister, p);
        }
        check.promise(9, "NONE: there is none such");
        for (int out : Kinds.outside(3)) {
            check.due("p " + out, lister.way(out, 0, 0, 0, 0), -1);
        }
        for (int out : Kinds.outside(1)) {
            check.due("phase " + out, lister.way(0, out, 0, 0, 0), -1);
        }
        for (int out : Kinds.outside(31)) {
            check.due("door " + out, lister.way(0, 0, out, 0, 0), -1);
            check.due("argument " + out, lister.way(0, 0, 0, out, 0), -1);
        }
        for (int out : Kinds.outside(2)) {
            check.due("i " + out, lister.way(0, 0, 0, 0, out), -1);
        }
        check.due("the last there is", lister.way(3, 1, 31, 31, 4), 4);
    }
}
