/** Promises 2 to 4. */
public final class CodeTest {
    private static final int TOP = Integer.MAX_VALUE;
    private static final int BOTTOM = Integer.MIN_VALUE;

    public static void main(String[] args) {
        Check check = new Check("CodeTest");
        appends(check);
        refusesToAppend(check);
        changes(check);
        copies(check);
        check.end();
    }

    private static void appends(Check check) {
        DoorLister lister = new DoorLister();
        check.due("the highest parts", lister.code(3, 9, 1, 31, 24), 0);
        check.due("the lowest parts", lister.code(3, 0, 0, 0, 0), 1);
        check.due("another program", lister.code(0, 5, 1, 2, 3), 0);
        for (int i = 1; i < 24; i++) {
            check.due("code", lister.code(0, i % 10, i % 2, i, i), i);
        }
        check.due("the 25th", lister.code(0, 0, 0, 0, 0), -1);
        check.due("all stay", lister.count(0, 0), 24);
        check.due("the last stays", lister.look(0, 23, 2), 23);
        check.due("other programs have room", lister.code(1, 0, 0, 0, 0), 0);
    }

    private static void refusesToAppend(Check check) {
        DoorLister lister = new DoorLister();
        int[][] wrong = {
            {-1, 0, 0, 0, 0}, {4, 0, 0, 0, 0}, {TOP, 0, 0, 0, 0}, {BOTTOM, 0, 0, 0, 0},
            {0, -1, 0, 0, 0}, {0, 10, 0, 0, 0}, {0, TOP, 0, 0, 0}, {0, BOTTOM, 0, 0, 0},
            {0, 0, -1, 0, 0}, {0, 0, 2, 0, 0}, {0, 0, TOP, 0, 0}, {0, 0, BOTTOM, 0, 0},
            {0, 0, 0, -1, 0}, {0, 0, 0, 32, 0}, {0, 0, 0, TOP, 0}, {0, 0, 0, BOTTOM, 0},
            {0, 0, 0, 0, -1}, {0, 0, 0, 0, 25}, {0, 0, 0, 0, TOP}, {0, 0, 0, 0, BOTTOM},
            {0, 9, 2, 0, 0}, {0, 7, 0, 32, 0}, {0, 3, 0, 0, 25},
        };
        for (int[] w : wrong) {
            check.due("a wrong code", lister.code(w[0], w[1], w[2], w[3], w[4]), -1);
        }
        for (int p = 0; p < 4; p++) {
            check.due("nothing came", lister.count(p, 0), 0);
        }
    }

    private static void changes(Check check) {
        DoorLister lister = new DoorLister();
        check.due("none is there", lister.change(0, 0, 0, 0, 0, 0), false);
        Kinds.write(lister, 0, Kinds.row(Kinds.SET, 1, 4), Kinds.row(Kinds.CALL));
        check.due("before", lister.needed(0, 0, 0), 16);
        check.due("change", lister.change(0, 0, Kinds.SET, 1, 6, 9), true);
        check.due("after", lister.needed(0, 0, 0), 64);
        check.due("its n", lister.look(0, 0, 2), 6);
        check.due("its to", lister.look(0, 0, 3), 9);
        check.due("the last one", lister.change(0, 1, Kinds.END, 0, 0, 0), true);
        check.due("no call more", lister.needed(0, 0, 0), 0);
        check.due("as many as before", lister.count(0, 0), 2);
        int[][] wrong = {
            {0, 2, 0, 0, 0, 0}, {0, -1, 0, 0, 0, 0}, {0, 24, 0, 0, 0, 0}, {0, TOP, 0, 0, 0, 0},
            {1, 0, 0, 0, 0, 0}, {4, 0, 0, 0, 0, 0}, {-1, 0, 0, 0, 0, 0}, {0, 0, 10, 0, 0, 0},
            {0, 0, -1, 0, 0, 0}, {0, 0, 0, 2, 0, 0}, {0, 0, 0, -1, 0, 0}, {0, 0, 0, 0, 32, 0},
            {0, 0, 0, 0, -1, 0}, {0, 0, 0, 0, 0, 25}, {0, 0, 0, 0, 0, -1}, {BOTTOM, 0, 0, 0, 0, 0},
        };
        for (int[] w : wrong) {
            check.due("a wrong change", lister.change(w[0], w[1], w[2], w[3], w[4], w[5]), false);
        }
        check.due("its n stays", lister.look(0, 0, 2), 6);
        check.due("its x stays", lister.look(0, 0, 1), 1);
    }

    private static void copies(Check check) {
        DoorLister lister = new DoorLister();
        Kinds.write(lister, 0, Kinds.row(Kinds.SET, 1, 4), Kinds.row(Kinds.CALL), Kinds.row(Kinds.CALL));
        Kinds.write(lister, 1, Kinds.row(Kinds.SET, 1, 7), Kinds.row(Kinds.CALL));
        lister.run(0, 0);
        lister.run(1, 0);
        check.due("needed before", lister.needed(0, 0, 0), 16);
        check.due("copy", lister.copy(0, 1), true);
        check.due("its length", lister.count(0, 0), 2);
        check.due("its needs", lister.needed(0, 0, 0), 128);
        check.due("what is seen stays", lister.seen(0, 0, 0), 16);
        check.due("the other's seen stays", lister.seen(1, 0, 0), 128);
        lister.change(1, 0, Kinds.SET, 1, 9, 0);
        check.due("it is its own from then on", lister.needed(0, 0, 0), 128);
        check.due("the other one is changed", lister.needed(1, 0, 0), 512);
        check.due("a copy grows behind its end", lister.code(0, Kinds.END, 0, 0, 0), 2);
        check.due("the other one does not", lister.count(1, 0), 2);
        check.due("an empty code is a code", lister.copy(0, 3), true);
        check.due("it is empty", lister.count(0, 0), 0);
        check.due("it needs none", lister.needed(0, 0, 0), 0);
        check.due("itself", lister.copy(1, 1), false);
        check.due("no such p", lister.copy(4, 1), false);
        check.due("p below", lister.copy(-1, 1), false);
        check.due("no such q", lister.copy(1, 4), false);
        check.due("q below", lister.copy(1, -1), false);
        check.due("far ones", lister.copy(TOP, BOTTOM), false);
        check.due("a refused copy changes nothing", lister.count(1, 0), 2);
    }
}
