/** Promises 8 and 9: the shortest way to a call, and of like ones the least. */
public final class WayTest {
    public static void main(String[] args) {
        Check check = new Check("WayTest");
        straight(check);
        leastOfLikeOnes(check);
        leastAmongBranchesOfOneRead(check);
        shortBeforeLeast(check);
        lastInstructionCounts(check);
        oftenGone(check);
        manyMeet(check);
        wrongOnes(check);
        check.end();
    }

    private static void dueWay(Check check, DoorLister lister, int[] call, int... want) {
        int steps = lister.steps(call[0], call[1], call[2], call[3]);
        check.due("steps", steps, want.length);
        for (int i = 0; i < want.length; i++) {
            check.due("way " + i, lister.way(call[0], call[1], call[2], call[3], i), want[i]);
        }
        check.due("behind it", lister.way(call[0], call[1], call[2], call[3], want.length), -1);
        check.due("before it", lister.way(call[0], call[1], call[2], call[3], -1), -1);
    }

    private static void straight(Check check) {
        DoorLister lister = new DoorLister();
        Kinds.write(lister, 3, Kinds.row(Kinds.CALL), Kinds.row(Kinds.POINT), Kinds.row(Kinds.READ, 1),
                Kinds.row(Kinds.CALL));
        dueWay(check, lister, new int[] {3, 0, 0, 0}, 0);
        dueWay(check, lister, new int[] {3, 1, 0, 31}, 0, 1, 2, 3);
        dueWay(check, lister, new int[] {3, 1, 0, 0}, 0, 1, 2, 3);
    }

    /** Two ways of the same length: by IF to 5 (not below) or on at 2. */
    private static void leastOfLikeOnes(Check check) {
        DoorLister lister = new DoorLister();
        Kinds.write(lister, 0, Kinds.row(Kinds.READ, 0), Kinds.row(Kinds.IF, 0, 16, 5),
                Kinds.row(Kinds.SET, 0, 3), Kinds.row(Kinds.CALL), Kinds.row(Kinds.END),
                Kinds.row(Kinds.SET, 0, 3), Kinds.row(Kinds.CALL));
        dueWay(check, lister, new int[] {0, 0, 3, 0}, 0, 1, 2, 3);
        lister.change(0, 1, Kinds.IF, 0, 16, 5);
        lister.change(0, 2, Kinds.SET, 0, 4, 0);
        dueWay(check, lister, new int[] {0, 0, 3, 0}, 0, 1, 5, 6);
        dueWay(check, lister, new int[] {0, 0, 4, 0}, 0, 1, 2, 3);
    }

    /** The row that is least early goes through the branch of READ that is found late. */
    private static void leastAmongBranchesOfOneRead(Check check) {
        DoorLister lister = new DoorLister();
        Kinds.write(lister, 0, Kinds.row(Kinds.GO, 0, 0, 6), Kinds.row(Kinds.GO, 0, 0, 5),
                Kinds.row(Kinds.GO, 0, 0, 4), Kinds.row(Kinds.END), Kinds.row(Kinds.CALL), Kinds.row(Kinds.CALL),
                Kinds.row(Kinds.READ, 1), Kinds.row(Kinds.IF, 1, 9, 2), Kinds.row(Kinds.SET, 1, 9),
                Kinds.row(Kinds.GO, 0, 0, 1));
        dueWay(check, lister, new int[] {0, 0, 0, 8}, 0, 6, 7, 2, 4);
        dueWay(check, lister, new int[] {0, 0, 0, 9}, 0, 6, 7, 8, 9, 1, 5);
        DoorLister both = new DoorLister();
        Kinds.write(both, 0, Kinds.row(Kinds.READ, 1), Kinds.row(Kinds.IF, 1, 20, 4), Kinds.row(Kinds.SET, 1, 1),
                Kinds.row(Kinds.GO, 0, 0, 6), Kinds.row(Kinds.SET, 1, 1), Kinds.row(Kinds.GO, 0, 0, 6),
                Kinds.row(Kinds.CALL));
        dueWay(check, both, new int[] {0, 0, 0, 1}, 0, 1, 2, 3, 6);
        both.change(0, 1, Kinds.IF, 1, 20, 2);
        both.change(0, 2, Kinds.SET, 1, 7, 0);
        dueWay(check, both, new int[] {0, 0, 0, 7}, 0, 1, 2, 3, 6);
    }

    private static void shortBeforeLeast(Check check) {
        DoorLister lister = new DoorLister();
        Kinds.write(lister, 0, Kinds.row(Kinds.READ, 1), Kinds.row(Kinds.IF, 1, 1, 6), Kinds.row(Kinds.SET, 1, 0),
                Kinds.row(Kinds.SET, 1, 0), Kinds.row(Kinds.CALL), Kinds.row(Kinds.END), Kinds.row(Kinds.CALL));
        dueWay(check, lister, new int[] {0, 0, 0, 0}, 0, 1, 6);
    }

    /** IF to the next one is one row for all, so both branches stay alike. */
    private static void lastInstructionCounts(Check check) {
        DoorLister lister = new DoorLister();
        Kinds.write(lister, 0, Kinds.row(Kinds.READ, 1), Kinds.row(Kinds.IF, 1, 7, 2), Kinds.row(Kinds.IF, 1, 7, 5),
                Kinds.row(Kinds.SET, 1, 0), Kinds.row(Kinds.CALL), Kinds.row(Kinds.SET, 1, 0),
                Kinds.row(Kinds.CALL));
        dueWay(check, lister, new int[] {0, 0, 0, 0}, 0, 1, 2, 3, 4);
    }

    private static void oftenGone(Check check) {
        DoorLister lister = new DoorLister();
        Kinds.write(lister, 0, Kinds.row(Kinds.ADD, 1, 1), Kinds.row(Kinds.IF, 1, 3, 0), Kinds.row(Kinds.CALL));
        dueWay(check, lister, new int[] {0, 0, 0, 3}, 0, 1, 0, 1, 0, 1, 2);
        DoorLister far = new DoorLister();
        Kinds.write(far, 0, Kinds.row(Kinds.ADD, 1, 1), Kinds.row(Kinds.IF, 1, 1, 3), Kinds.row(Kinds.GO, 0, 0, 0),
                Kinds.row(Kinds.CALL), Kinds.row(Kinds.ADD, 0, 1), Kinds.row(Kinds.GO, 0, 0, 0));
        check.due("far beyond a run", far.steps(0, 0, 31, 0), 31 * (31 * 3 + 5) + 31 * 3 + 3);
        check.due("its last", far.way(0, 0, 31, 0, 3133), 3);
        check.due("behind it", far.way(0, 0, 31, 0, 3134), -1);
    }

    /** Ways that part and meet again and again: more of them than can be told one by one. */
    private static void manyMeet(Check check) {
        DoorLister lister = new DoorLister();
        Kinds.write(lister, 0, Kinds.row(Kinds.READ, 1), Kinds.row(Kinds.IF, 1, 16, 4), Kinds.row(Kinds.ADD, 0, 1),
                Kinds.row(Kinds.GO, 0, 0, 5), Kinds.row(Kinds.ADD, 0, 1), Kinds.row(Kinds.IF, 0, 31, 0),
                Kinds.row(Kinds.CALL));
        check.due("short rounds alone", lister.steps(0, 0, 31, 3), 31 * 4 + 1);
        check.due("a long round at the end", lister.steps(0, 0, 31, 20), 31 * 4 + 2);
        check.due("not before", lister.way(0, 0, 31, 20, 118), 4);
        check.due("then", lister.way(0, 0, 31, 20, 122), 2);
    }

    private static void wrongOnes(Check check) {
        DoorLister lister = new DoorLister();
        Kinds.write(lister, 0, Kinds.row(Kinds.READ, 0), Kinds.row(Kinds.READ, 1), Kinds.row(Kinds.CALL));
        int[][] wrong = {
            {-1, 0, 0, 0}, {4, 0, 0, 0}, {1, 0, 0, 0}, {0, -1, 0, 0}, {0, 1, 0, 0}, {0, 2, 0, 0}, {0, 0, -1, 0},
            {0, 0, 32, 0}, {0, 0, 0, -1}, {0, 0, 0, 32}, {Integer.MAX_VALUE, 0, 0, 0}, {0, Integer.MIN_VALUE, 0, 0},
            {0, 0, Integer.MAX_VALUE, 0}, {0, 0, 0, Integer.MIN_VALUE},
        };
        for (int[] w : wrong) {
            check.due("steps", lister.steps(w[0], w[1], w[2], w[3]), -1);
            check.due("way", lister.way(w[0], w[1], w[2], w[3], 0), -1);
        }
        check.due("way", lister.way(0, 0, 0, 0, Integer.MAX_VALUE), -1);
        check.due("way", lister.way(0, 0, 0, 0, Integer.MIN_VALUE), -1);
        check.due("the last", lister.way(0, 0, 31, 31, 2), 2);
    }
}
