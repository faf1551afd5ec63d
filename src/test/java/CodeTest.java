/** Promises 2 to 4. */
public final class CodeTest {
    private static final int TOP = Kinds.TOP;
    private static final int BOTTOM = Kinds.BOTTOM;

    public static void main(String[] args) {
        Check check = new Check("CodeTest");
        numbersFrom0(check);
        refusesToAppend(check);
        refusesPartsOfAllKinds(check);
        twentyFourAreThere(check);
        changes(check);
        changesTheFirstAndTheLast(check);
        refusesToChange(check);
        changeLeavesSeen(check);
        copies(check);
        copiesFullAndEmpty(check);
        copyIsItsOwn(check);
        copyLeavesSeen(check);
        refusesToCopy(check);
        check.end();
    }

    private static void numbersFrom0(Check check) {
        check.promise(2, "its number");
        DoorLister lister = new DoorLister();
        check.due("the highest parts", lister.code(3, 9, 1, 31, 24), 0);
        check.due("the lowest parts", lister.code(3, 0, 0, 0, 0), 1);
        check.due("another program", lister.code(0, 5, 1, 2, 3), 0);
        check.due("all that were told", lister.count(3, 0), 2);
    }

    private static void refusesToAppend(Check check) {
        check.promise(2, "no such ones");
        DoorLister lister = new DoorLister();
        int[][] wrong = {
            {-1, 0, 0, 0, 0}, {4, 0, 0, 0, 0}, {TOP, 0, 0, 0, 0}, {BOTTOM, 0, 0, 0, 0},
            {0, -1, 0, 0, 0}, {0, 10, 0, 0, 0}, {0, TOP, 0, 0, 0}, {0, BOTTOM, 0, 0, 0},
            {0, 0, -1, 0, 0}, {0, 0, 2, 0, 0}, {0, 0, TOP, 0, 0}, {0, 0, BOTTOM, 0, 0},
            {0, 0, 0, -1, 0}, {0, 0, 0, 32, 0}, {0, 0, 0, TOP, 0}, {0, 0, 0, BOTTOM, 0},
            {0, 0, 0, 0, -1}, {0, 0, 0, 0, 25}, {0, 0, 0, 0, TOP}, {0, 0, 0, 0, BOTTOM},
        };
        for (int[] w : wrong) {
            check.due("a wrong code", lister.code(w[0], w[1], w[2], w[3], w[4]), -1);
        }
        for (int p = 0; p < 4; p++) {
            check.due("nothing came", lister.count(p, 0), 0);
        }
    }

    private static void refusesPartsOfAllKinds(Check check) {
        check.terms(2, "What KINDS don't name of x, n, to is told as well");
        DoorLister lister = new DoorLister();
        for (int kind = 0; kind < 10; kind++) {
            for (int x : Kinds.outside(1)) {
                check.due("x of kind " + kind, lister.code(0, kind, x, 0, 0), -1);
            }
            for (int n : Kinds.outside(31)) {
                check.due("n of kind " + kind, lister.code(0, kind, 0, n, 0), -1);
            }
            for (int to : Kinds.outside(24)) {
                check.due("to of kind " + kind, lister.code(0, kind, 0, 0, to), -1);
            }
            check.due("the highest of kind " + kind, lister.code(0, kind, 1, 31, 24), kind);
        }
    }

    private static void twentyFourAreThere(Check check) {
        check.promise(2, "24 are there");
        for (int p = 0; p < 4; p++) {
            DoorLister lister = new DoorLister();
            for (int i = 0; i < 24; i++) {
                check.due("code", lister.code(p, i % 10, i % 2, i, i), i);
            }
            check.due("the 25th", lister.code(p, 0, 0, 0, 0), -1);
            check.due("again", lister.code(p, 0, 0, 0, 0), -1);
            check.due("all stay", lister.count(p, 0), 24);
            check.due("the last stays", lister.look(p, 23, 2), 23);
            check.due("the first stays", lister.look(p, 0, 2), 0);
            check.due("the last can be changed", lister.change(p, 23, 0, 0, 7, 0), true);
            check.due("there is still no room", lister.code(p, 0, 0, 0, 0), -1);
            check.due("other programs have room", lister.code((p + 1) % 4, 0, 0, 0, 0), 0);
        }
    }

    private static void changes(Check check) {
        check.promise(3, "INSTRUCTION i of PROGRAM p is another one: true");
        DoorLister lister = Kinds.of(Kinds.row(Kinds.SET, 1, 4), Kinds.row(Kinds.CALL));
        check.due("before", lister.needed(0, 0, 0), 16);
        check.due("change", lister.change(0, 0, Kinds.SET, 1, 6, 9), true);
        check.due("after", lister.needed(0, 0, 0), 64);
        check.due("its n", lister.look(0, 0, 2), 6);
        check.due("its to", lister.look(0, 0, 3), 9);
        check.due("the next one stays", lister.look(0, 1, 0), Kinds.CALL);
        check.due("the last one", lister.change(0, 1, Kinds.END, 0, 0, 0), true);
        check.due("no call more", lister.needed(0, 0, 0), 0);
        check.due("as many as before", lister.count(0, 0), 2);
    }

    private static void changesTheFirstAndTheLast(Check check) {
        check.promise(3, "INSTRUCTION i of PROGRAM p is another one: true");
        DoorLister lister = new DoorLister();
        for (int i = 0; i < 24; i++) {
            lister.code(3, Kinds.POINT, 0, 0, 0);
        }
        check.due("the highest parts", lister.change(3, 23, 9, 1, 31, 24), true);
        check.due("its kind", lister.look(3, 23, 0), 9);
        check.due("its x", lister.look(3, 23, 1), 1);
        check.due("its n", lister.look(3, 23, 2), 31);
        check.due("its to", lister.look(3, 23, 3), 24);
        check.due("the one before stays", lister.look(3, 22, 0), Kinds.POINT);
        check.due("the lowest parts", lister.change(3, 0, 0, 0, 0, 0), true);
        check.due("its kind", lister.look(3, 0, 0), 0);
        check.due("the next one stays", lister.look(3, 1, 0), Kinds.POINT);
    }

    private static void refusesToChange(Check check) {
        check.promise(3, "false: no such ones");
        DoorLister lister = Kinds.of(Kinds.row(Kinds.SET, 1, 6), Kinds.row(Kinds.CALL));
        int[][] wrong = {
            {0, 2, 0, 0, 0, 0}, {0, -1, 0, 0, 0, 0}, {0, 23, 0, 0, 0, 0}, {0, 24, 0, 0, 0, 0}, {0, TOP, 0, 0, 0, 0},
            {0, BOTTOM, 0, 0, 0, 0}, {1, 0, 0, 0, 0, 0}, {4, 0, 0, 0, 0, 0}, {-1, 0, 0, 0, 0, 0}, {TOP, 0, 0, 0, 0, 0},
            {BOTTOM, 0, 0, 0, 0, 0}, {0, 0, 10, 0, 0, 0}, {0, 0, -1, 0, 0, 0}, {0, 0, TOP, 0, 0, 0},
            {0, 0, BOTTOM, 0, 0, 0}, {0, 0, 0, 2, 0, 0}, {0, 0, 0, -1, 0, 0}, {0, 0, 0, TOP, 0, 0},
            {0, 0, 0, BOTTOM, 0, 0}, {0, 0, 0, 0, 32, 0}, {0, 0, 0, 0, -1, 0}, {0, 0, 0, 0, TOP, 0},
            {0, 0, 0, 0, BOTTOM, 0}, {0, 0, 0, 0, 0, 25}, {0, 0, 0, 0, 0, -1}, {0, 0, 0, 0, 0, TOP},
            {0, 0, 0, 0, 0, BOTTOM}, {0, 0, 9, 2, 0, 0}, {0, 0, 7, 0, 32, 0}, {0, 0, 3, 0, 0, 25},
        };
        for (int[] w : wrong) {
            check.due("a wrong change", lister.change(w[0], w[1], w[2], w[3], w[4], w[5]), false);
        }
        check.due("as many as before", lister.count(0, 0), 2);
        check.due("its x stays", lister.look(0, 0, 1), 1);
        check.due("its n stays", lister.look(0, 0, 2), 6);
        check.due("its calls stay", lister.needed(0, 0, 0), 64);
        DoorLister full = new DoorLister();
        for (int i = 0; i < 24; i++) {
            full.code(0, Kinds.POINT, 0, 0, 0);
        }
        check.due("behind 24", full.change(0, 24, 0, 0, 0, 0), false);
    }

    private static void changeLeavesSeen(Check check) {
        check.terms(3, "CODE that is changed leaves them");
        DoorLister lister = Kinds.of(Kinds.row(Kinds.SET, 1, 4), Kinds.row(Kinds.CALL));
        lister.run(0, 0);
        lister.change(0, 1, Kinds.END, 0, 0, 0);
        check.due("a change", lister.seen(0, 0, 0), 16);
        lister.code(0, Kinds.END, 0, 0, 0);
        check.due("one more", lister.seen(0, 0, 0), 16);
        check.due("count", lister.count(0, 3), 1);
        check.due("it is not needed", lister.count(0, 1), 0);
    }

    private static void copies(Check check) {
        check.promise(4, "PROGRAM p has the CODE of PROGRAM q");
        DoorLister lister = Kinds.of(Kinds.row(Kinds.SET, 1, 4), Kinds.row(Kinds.CALL), Kinds.row(Kinds.CALL));
        Kinds.write(lister, 3, Kinds.row(Kinds.SET, 1, 7, 5), Kinds.row(Kinds.CALL));
        check.due("needed before", lister.needed(0, 0, 0), 16);
        check.due("a shorter one", lister.copy(0, 3), true);
        check.due("its length", lister.count(0, 0), 2);
        check.due("its needs", lister.needed(0, 0, 0), 128);
        for (int what = 0; what < 4; what++) {
            check.due("its parts", lister.look(0, 0, what), lister.look(3, 0, what));
        }
        check.due("nothing of the old one behind it", lister.look(0, 2, 0), -1);
        check.due("a longer one", lister.code(0, Kinds.END, 0, 0, 0), 2);
        check.due("copied back", lister.copy(3, 0), true);
        check.due("its length", lister.count(3, 0), 3);
    }

    private static void copiesFullAndEmpty(Check check) {
        check.promise(4, "PROGRAM p has the CODE of PROGRAM q");
        DoorLister lister = new DoorLister();
        for (int i = 0; i < 24; i++) {
            lister.code(1, Kinds.CALL, i % 2, i, 24 - i);
        }
        check.due("all 24", lister.copy(2, 1), true);
        check.due("its length", lister.count(2, 0), 24);
        check.due("its last n", lister.look(2, 23, 2), 23);
        check.due("its last to", lister.look(2, 23, 3), 1);
        check.due("no room is left", lister.code(2, 0, 0, 0, 0), -1);
        check.due("needed", lister.needed(2, 0, 0), 1);
        check.due("an empty code is a code", lister.copy(2, 3), true);
        check.due("it is empty", lister.count(2, 0), 0);
        check.due("it needs none", lister.needed(2, 0, 0), 0);
        check.due("it has room from 0 on", lister.code(2, 0, 0, 0, 0), 0);
        check.due("both may be empty", lister.copy(0, 3), true);
    }

    private static void copyIsItsOwn(Check check) {
        check.promise(4, "from now on");
        DoorLister lister = new DoorLister();
        Kinds.write(lister, 1, Kinds.row(Kinds.SET, 1, 7), Kinds.row(Kinds.CALL));
        lister.copy(0, 1);
        lister.change(1, 0, Kinds.SET, 1, 9, 0);
        check.due("the copy stays", lister.needed(0, 0, 0), 128);
        check.due("the other one is changed", lister.needed(1, 0, 0), 512);
        lister.change(0, 0, Kinds.SET, 1, 2, 0);
        check.due("the copy is changed", lister.needed(0, 0, 0), 4);
        check.due("the other one stays", lister.needed(1, 0, 0), 512);
        check.due("a copy grows behind its end", lister.code(0, Kinds.END, 0, 0, 0), 2);
        check.due("the other one does not", lister.count(1, 0), 2);
    }

    private static void copyLeavesSeen(Check check) {
        check.promise(4, "what is SEEN of it stays");
        DoorLister lister = Kinds.of(Kinds.row(Kinds.SET, 1, 4), Kinds.row(Kinds.CALL), Kinds.row(Kinds.POINT),
                Kinds.row(Kinds.CALL));
        Kinds.write(lister, 1, Kinds.row(Kinds.SET, 1, 7), Kinds.row(Kinds.CALL));
        lister.run(0, 0);
        lister.run(1, 0);
        lister.copy(0, 1);
        check.due("at start", lister.seen(0, 0, 0), 16);
        check.due("after", lister.seen(0, 1, 0), 16);
        check.due("the other's", lister.seen(1, 0, 0), 128);
        lister.copy(2, 1);
        check.due("it is not copied", lister.seen(2, 0, 0), 0);
        lister.copy(0, 3);
        check.due("nor emptied", lister.seen(0, 0, 0), 16);
    }

    private static void refusesToCopy(Check check) {
        check.promise(4, "false: no such two");
        DoorLister lister = new DoorLister();
        for (int p = 0; p < 4; p++) {
            Kinds.write(lister, p, Kinds.row(Kinds.SET, 1, p), Kinds.row(Kinds.CALL));
            check.due("itself", lister.copy(p, p), false);
            for (int out : Kinds.outside(3)) {
                check.due("no such p", lister.copy(out, p), false);
                check.due("no such q", lister.copy(p, out), false);
            }
        }
        check.due("neither of them", lister.copy(-1, 4), false);
        check.due("one that is not, twice", lister.copy(4, 4), false);
        for (int p = 0; p < 4; p++) {
            check.due("its code stays", lister.count(p, 0), 2);
            check.due("its calls stay", lister.needed(p, 0, 0), 1 << p);
        }
    }
}
