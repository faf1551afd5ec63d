/** Promises 16 to 19: effects, what a stranger comes to, and what shuts it. */
public final class HouseTest {
    public static void main(String[] args) {
        Check check = new Check("HouseTest");
        effects(check);
        reach(check);
        reachBySeen(check);
        shutTakesFewestCalls(check);
        shutTakesFewestEffects(check);
        shutTakesTheLeast(check);
        cutsTakeFromOthers(check);
        seenStaysOpen(check);
        startDoesNotCount(check);
        wrongOnes(check);
        check.end();
    }

    private static void effects(Check check) {
        DoorLister lister = new DoorLister();
        int[][] wrong = {
            {-1, 0, 0, 0, 0}, {32, 0, 0, 0, 0}, {0, -1, 0, 0, 0}, {0, 32, 32, 0, 0}, {0, 0, -1, 0, 0},
            {0, 0, 32, 0, 0}, {0, 1, 0, 0, 0}, {0, 31, 30, 0, 0}, {0, 0, 0, -1, 0}, {0, 0, 0, 256, 0},
            {0, 0, 0, 0, -1}, {0, 0, 0, 0, 256}, {Integer.MAX_VALUE, 0, 0, 0, 0},
            {0, Integer.MIN_VALUE, Integer.MAX_VALUE, 0, 0}, {0, 0, 0, Integer.MAX_VALUE, Integer.MIN_VALUE},
        };
        for (int[] w : wrong) {
            check.due("a wrong effect", lister.effect(w[0], w[1], w[2], w[3], w[4]), -1);
        }
        check.due("none came", lister.count(-1, 0), 0);
        for (int i = 0; i < 10; i++) {
            check.due("effect", lister.effect(31, i, 31, 255, 255), i);
        }
        check.due("the 11th", lister.effect(0, 0, 0, 0, 0), -1);
        check.due("10 are there", lister.count(-1, 0), 10);
    }

    private static void reach(Check check) {
        DoorLister lister = new DoorLister();
        Kinds.callSpan(lister, 0, 5, 10, 12);
        Kinds.callSpan(lister, 1, 6, 31, 31);
        lister.effect(6, 31, 31, 6, 128);
        lister.effect(6, 0, 31, 2, 4);
        lister.effect(5, 12, 20, 1, 2);
        lister.effect(5, 0, 10, 0, 1);
        lister.effect(5, 0, 9, 0, 64);
        lister.effect(5, 13, 31, 0, 64);
        lister.effect(4, 0, 31, 0, 64);
        check.due("both", lister.reach(3, false), 128 | 4 | 2 | 1);
        check.due("one", lister.reach(1, false), 2 | 1);
        check.due("the other, which takes first", lister.reach(2, false), 0);
        check.due("none", lister.reach(0, false), 0);
        check.due("all", lister.reach(15, false), 128 | 4 | 2 | 1);
        check.due("nothing is seen", lister.reach(15, true), 0);
    }

    private static void reachBySeen(Check check) {
        DoorLister lister = new DoorLister();
        Kinds.write(lister, 2, Kinds.row(Kinds.CALL), Kinds.row(Kinds.POINT), Kinds.row(Kinds.READ, 1),
                Kinds.row(Kinds.CALL));
        lister.effect(0, 3, 3, 0, 1);
        lister.effect(0, 4, 4, 0, 2);
        lister.effect(0, 0, 0, 0, 4);
        check.due("by the list", lister.reach(4, false), 7);
        lister.feed(0x03000000, 0, 0, 0, 0);
        lister.run(2, 1);
        check.due("by what is seen after", lister.reach(4, true), 1);
        check.due("not of others", lister.reach(11, true), 0);
        lister.copy(2, 0);
        check.due("seen stays", lister.reach(4, true), 1);
        check.due("the list does not", lister.reach(4, false), 0);
    }

    private static void dueShut(Check check, DoorLister lister, int power, int calls, int effects) {
        check.due("cuts", lister.cuts(1, power), effects);
        check.due("shut", lister.shut(1, power), calls);
    }

    /** One effect of many calls against two of few. */
    private static void shutTakesFewestCalls(Check check) {
        DoorLister lister = new DoorLister();
        Kinds.callSpan(lister, 0, 1, 0, 31);
        Kinds.callSpan(lister, 0, 2, 0, 4);
        lister.effect(1, 0, 9, 0, 1);
        lister.effect(2, 0, 1, 1, 2);
        lister.effect(2, 4, 4, 1, 2);
        dueShut(check, lister, 1, 3, 6);
        dueShut(check, lister, 0, 10, 1);
        dueShut(check, lister, 2, 0, 0);
    }

    /** One effect holds another one: both shut by cutting the wide one alone. */
    private static void shutTakesFewestEffects(Check check) {
        DoorLister lister = new DoorLister();
        Kinds.callSpan(lister, 0, 1, 0, 3);
        lister.effect(1, 0, 1, 0, 1);
        lister.effect(1, 2, 3, 0, 1);
        lister.effect(1, 0, 31, 0, 0);
        dueShut(check, lister, 0, 4, 4);
    }

    private static void shutTakesTheLeast(Check check) {
        DoorLister lister = new DoorLister();
        Kinds.callSpan(lister, 0, 1, 5, 5);
        Kinds.callSpan(lister, 0, 2, 6, 6);
        lister.effect(2, 6, 6, 1, 2);
        lister.effect(1, 5, 5, 0, 1);
        lister.effect(1, 0, 31, 0, 0);
        dueShut(check, lister, 1, 1, 1);
        dueShut(check, lister, 0, 1, 2);
    }

    /** Calls of two effects are counted once, and an effect that lost all its calls is shut, too. */
    private static void cutsTakeFromOthers(Check check) {
        DoorLister lister = new DoorLister();
        Kinds.callSpan(lister, 0, 3, 0, 9);
        lister.effect(3, 0, 4, 0, 1);
        lister.effect(3, 3, 9, 0, 1);
        lister.effect(3, 4, 4, 0, 2);
        dueShut(check, lister, 0, 10, 3);
        dueShut(check, lister, 1, 1, 4);
    }

    private static void seenStaysOpen(Check check) {
        DoorLister lister = new DoorLister();
        Kinds.write(lister, 0, Kinds.row(Kinds.POINT), Kinds.row(Kinds.READ, 1), Kinds.row(Kinds.CALL));
        lister.effect(0, 0, 3, 0, 1);
        lister.effect(0, 4, 15, 1, 2);
        lister.effect(0, 16, 17, 0, 4);
        lister.effect(0, 17, 31, 0, 4);
        dueShut(check, lister, 1, 4, 1);
        lister.copy(1, 0);
        lister.feed(0x02000000, 0, 0, 0, 0);
        lister.run(1, 1);
        dueShut(check, lister, 1, 4, 1);
        check.due("seen of one of the set", lister.shut(3, 1), 12);
        check.due("not of one", lister.shut(1, 1), 4);
        check.due("its cuts", lister.cuts(3, 1), 2);
        check.due("it can't be", lister.shut(3, 0), -1);
        check.due("it can't be", lister.cuts(3, 0), -1);
        lister.feed(0x11000000, 0, 0, 0, 0);
        lister.run(1, 1);
        check.due("two can't be", lister.shut(3, 2), -1);
        dueShut(check, lister, 2, 16, 12);
        lister.change(0, 1, Kinds.SET, 1, 16, 0);
        lister.change(1, 1, Kinds.SET, 1, 16, 0);
        check.due("seen, but not in the list", lister.shut(3, 2), 1);
        check.due("its cuts", lister.cuts(3, 2), 4);
    }

    private static void startDoesNotCount(Check check) {
        DoorLister lister = new DoorLister();
        Kinds.write(lister, 0, Kinds.row(Kinds.SET, 1, 2), Kinds.row(Kinds.CALL), Kinds.row(Kinds.POINT));
        lister.effect(0, 0, 31, 0, 1);
        check.due("at start alone", lister.reach(1, false), 0);
        lister.run(0, 0);
        check.due("seen at start alone", lister.reach(1, true), 0);
        lister.code(0, Kinds.CALL, 0, 0, 0);
        check.due("after, too", lister.reach(1, false), 1);
        dueShut(check, lister, 0, 1, 1);
    }

    private static void wrongOnes(Check check) {
        DoorLister lister = new DoorLister();
        int[] outs = {-1, 16, Integer.MIN_VALUE, Integer.MAX_VALUE};
        for (int out : outs) {
            check.due("reach", lister.reach(out, false), -1);
            check.due("reach", lister.reach(out, true), -1);
            check.due("shut", lister.shut(out, 0), -1);
            check.due("shut", lister.shut(0, out), -1);
            check.due("cuts", lister.cuts(out, 0), -1);
            check.due("cuts", lister.cuts(0, out), -1);
        }
        check.due("shut(0, 8)", lister.shut(0, 8), -1);
        check.due("cuts(0, 8)", lister.cuts(0, 8), -1);
        check.due("shut(15, 7)", lister.shut(15, 7), 0);
        check.due("cuts(0, 7)", lister.cuts(0, 7), 0);
    }
}
