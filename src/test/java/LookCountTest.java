/** Promises 20 and 21. */
public final class LookCountTest {
    private static final int[] CALL = Kinds.row(Kinds.CALL);
    private static final int[] END = Kinds.row(Kinds.END);

    public static void main(String[] args) {
        Check check = new Check("LookCountTest");
        tellsParts(check);
        comesTo(check);
        comesToByBranches(check);
        lookForOthers(check);
        countsInstructions(check);
        countsCalls(check);
        countsHouseAndTape(check);
        countForOthers(check);
        check.end();
    }

    private static void tellsParts(Check check) {
        check.promise(20, "what 0 its KIND, 1 x, 2 n, 3 to");
        DoorLister lister = new DoorLister();
        for (int i = 0; i < 24; i++) {
            lister.code(2, i % 10, i / 2 % 2, 31 - i, 24 - i);
        }
        for (int i = 0; i < 24; i++) {
            check.due("kind", lister.look(2, i, 0), i % 10);
            check.due("x", lister.look(2, i, 1), i / 2 % 2);
            check.due("n", lister.look(2, i, 2), 31 - i);
            check.due("to", lister.look(2, i, 3), 24 - i);
        }
        check.terms(20, "What KINDS don't name of x, n, to is told as well");
        DoorLister odd = Kinds.of(Kinds.row(Kinds.END, 1, 31, 24));
        check.due("x", odd.look(0, 0, 1), 1);
        check.due("n", odd.look(0, 0, 2), 31);
        check.due("to", odd.look(0, 0, 3), 24);
    }

    private static void dueComes(Check check, DoorLister lister, int... want) {
        for (int i = 0; i < want.length; i++) {
            check.due("comes to " + i, lister.look(0, i, 4), want[i]);
        }
        check.due("behind the last", lister.look(0, want.length, 4), -1);
    }

    private static void comesTo(Check check) {
        check.promise(20, "4 whether a program can come to it (1, 0)");
        dueComes(check, Kinds.of(CALL), 1);
        dueComes(check, Kinds.of(END, CALL), 1, 0);
        dueComes(check, Kinds.of(Kinds.row(Kinds.GO, 0, 0, 2), CALL, END), 1, 0, 1);
        dueComes(check, Kinds.of(Kinds.row(Kinds.GO, 0, 0, 0), CALL), 1, 0);
        dueComes(check, Kinds.of(Kinds.row(Kinds.GO, 0, 0, 24), CALL), 1, 0);
        dueComes(check, Kinds.of(Kinds.row(Kinds.GO, 0, 0, 2), END, Kinds.row(Kinds.GO, 0, 0, 1)), 1, 1, 1);
        dueComes(check, Kinds.of(Kinds.row(Kinds.READ, 0), Kinds.row(Kinds.READ, 1), CALL), 1, 1, 1);
        DoorLister full = new DoorLister();
        for (int i = 0; i < 24; i++) {
            full.code(0, Kinds.POINT, 0, 0, 0);
        }
        check.due("the last of 24", full.look(0, 23, 4), 1);
        full.change(0, 22, Kinds.GO, 0, 0, 24);
        check.due("no more", full.look(0, 23, 4), 0);
    }

    private static void comesToByBranches(Check check) {
        check.promise(20, "4 whether a program can come to it (1, 0)");
        dueComes(check, Kinds.of(Kinds.row(Kinds.IF, 0, 0, 2), END, CALL), 1, 1, 0);
        dueComes(check, Kinds.of(Kinds.row(Kinds.IF, 0, 1, 2), END, CALL), 1, 0, 1);
        dueComes(check, Kinds.of(Kinds.row(Kinds.READ, 1), Kinds.row(Kinds.IF, 1, 31, 3), END, CALL), 1, 1, 1, 1);
        DoorLister lister = Kinds.of(Kinds.row(Kinds.READ, 0), Kinds.row(Kinds.MASK, 0, 7), Kinds.row(Kinds.IF, 0, 8, 5),
                CALL, CALL, Kinds.row(Kinds.POINT), Kinds.row(Kinds.IF, 0, 7, 8), Kinds.row(Kinds.GO, 0, 0, 9), END, END,
                Kinds.row(Kinds.GO, 0, 0, 0));
        dueComes(check, lister, 1, 1, 1, 0, 0, 1, 1, 1, 1, 1, 0);
        lister.change(0, 1, Kinds.MASK, 0, 15, 0);
        check.due("comes to 3 then", lister.look(0, 3, 4), 1);
        lister.change(0, 4, Kinds.END, 0, 0, 0);
        lister.change(0, 2, Kinds.IF, 0, 0, 5);
        check.due("comes to 4 still", lister.look(0, 4, 4), 1);
        check.due("no more to 5", lister.look(0, 5, 4), 0);
        lister.copy(1, 0);
        check.due("a copy, too", lister.look(1, 4, 4), 1);
        check.due("a copy not", lister.look(1, 5, 4), 0);
    }

    private static void lookForOthers(Check check) {
        check.promise(20, "NONE for others");
        DoorLister lister = new DoorLister();
        for (int p = 0; p < 4; p += 3) {
            Kinds.write(lister, p, CALL, CALL);
        }
        for (int what = 0; what < 5; what++) {
            for (int out : Kinds.outside(3)) {
                check.due("p " + out, lister.look(out, 0, what), -1);
            }
            for (int out : Kinds.outside(1)) {
                check.due("i " + out, lister.look(0, out, what), -1);
            }
            check.due("of an empty one", lister.look(1, 0, what), -1);
            check.due("i 24", lister.look(0, 24, what), -1);
        }
        for (int out : Kinds.outside(4)) {
            check.due("what " + out, lister.look(0, 0, out), -1);
        }
        check.due("the last there is", lister.look(3, 1, 4), 1);
        check.due("p NONE is no program here", lister.look(-1, 0, 0), -1);
    }

    private static void countsInstructions(Check check) {
        check.promise(21, "Of PROGRAM p, what 0 INSTRUCTIONS");
        for (int p = 0; p < 4; p++) {
            DoorLister lister = new DoorLister();
            for (int i = 0; i <= 24; i++) {
                check.due("behind " + i, lister.count(p, 0), i);
                lister.code(p, Kinds.END, 0, 0, 0);
            }
            check.due("not one more", lister.count(p, 0), 24);
            check.due("not of another one", lister.count(3 - p, 0), 0);
        }
    }

    private static void countsCalls(Check check) {
        check.promise(21, "1 CALLS NEEDED in PHASE 0, 2 in PHASE 1, 3, 4 SEEN likewise");
        DoorLister lister = new DoorLister();
        Kinds.write(lister, 1, Kinds.row(Kinds.READ, 0), Kinds.row(Kinds.READ, 1), CALL, Kinds.row(Kinds.POINT),
                Kinds.row(Kinds.MASK, 1, 5), CALL);
        check.due("needed at start, the most", lister.count(1, 1), 1024);
        check.due("needed after", lister.count(1, 2), 128);
        check.due("seen at start", lister.count(1, 3), 0);
        check.due("seen after", lister.count(1, 4), 0);
        int[] bytes = {0x01020000, 0x01030000, 0x02030000, 0x02070000, 0x01030000};
        for (int word : bytes) {
            lister.feed(word, 0, 0, 0, 0);
            check.due("two calls", lister.run(1, 2), 2);
        }
        check.due("seen at start", lister.count(1, 3), 4);
        check.due("seen after", lister.count(1, 4), 4);
        check.due("not of another one", lister.count(0, 3) + lister.count(0, 4), 0);
        lister.copy(1, 0);
        check.due("needed of an empty one", lister.count(1, 1) + lister.count(1, 2), 0);
        check.due("seen stays", lister.count(1, 3), 4);
    }

    private static void countsHouseAndTape(Check check) {
        check.promise(21, "p NONE: what 0 EFFECTS, 1 bytes of the tape");
        DoorLister lister = new DoorLister();
        for (int i = 0; i <= 10; i++) {
            check.due("effects", lister.count(-1, 0), i);
            lister.effect(0, 0, 0, 0, 0);
        }
        check.due("not one more", lister.count(-1, 0), 10);
        for (int size = 0; size <= 80; size += 20) {
            check.due("bytes", lister.count(-1, 1), size);
            lister.feed(0, 0, 0, 0, 0);
        }
        check.due("not one more", lister.count(-1, 1), 80);
        lister.run(0, 3);
        check.due("behind a run", lister.count(-1, 1), 0);
        check.due("the effects stay", lister.count(-1, 0), 10);
    }

    private static void countForOthers(Check check) {
        check.promise(21, "NONE for others");
        DoorLister lister = new DoorLister();
        lister.feed(0, 0, 0, 0, 0);
        lister.effect(0, 0, 0, 0, 0);
        Kinds.callAll(lister, 0);
        for (int what = 0; what < 5; what++) {
            check.due("p 4", lister.count(4, what), -1);
            check.due("p -2", lister.count(-2, what), -1);
            check.due("the highest p", lister.count(Kinds.TOP, what), -1);
            check.due("the lowest p", lister.count(Kinds.BOTTOM, what), -1);
        }
        for (int p = 0; p < 4; p++) {
            for (int out : Kinds.outside(4)) {
                check.due("what " + out, lister.count(p, out), -1);
            }
        }
        for (int out : Kinds.outside(1)) {
            check.due("what " + out + " without a program", lister.count(-1, out), -1);
        }
        check.due("what 3 without a program", lister.count(-1, 3), -1);
        check.due("what 4 without a program", lister.count(-1, 4), -1);
    }
}
