/** Promises 14 and 15: lists of several programs. */
public final class MeltedTest {
    private static final int[] CALL = Kinds.row(Kinds.CALL);

    public static void main(String[] args) {
        Check check = new Check("MeltedTest");
        allSets(check);
        overlapping(check);
        meltedNone(check);
        meltedNoSuchOnes(check);
        fresh(check);
        freshNone(check);
        freshNoSuchOnes(check);
        check.end();
    }

    /** Program p calls door 0 with p at start, and door 31 with 28 + p after. */
    private static DoorLister four() {
        DoorLister lister = new DoorLister();
        for (int p = 0; p < 4; p++) {
            Kinds.write(lister, p, Kinds.row(Kinds.SET, 1, p), CALL, Kinds.row(Kinds.POINT), Kinds.row(Kinds.SET, 0, 31),
                    Kinds.row(Kinds.ADD, 1, 28), CALL);
        }
        return lister;
    }

    private static void allSets(Check check) {
        check.promise(14, "one PROGRAM of a set (bits, 0 to 15) at least");
        DoorLister lister = four();
        for (int set = 0; set < 16; set++) {
            check.due("at start, set " + set, lister.melted(set, 0, 0), set);
            check.due("after, set " + set, lister.melted(set, 1, 31), set << 28);
        }
        lister.change(3, 0, Kinds.SET, 1, 9, 0);
        check.due("behind a change", lister.melted(15, 0, 0), 7 | 512);
        lister.copy(3, 0);
        check.due("behind a copy", lister.melted(15, 0, 0), 7);
    }

    private static void overlapping(Check check) {
        check.promise(14, "one PROGRAM of a set (bits, 0 to 15) at least");
        DoorLister lister = Kinds.of(Kinds.row(Kinds.READ, 1), Kinds.row(Kinds.MASK, 1, 3), CALL);
        Kinds.write(lister, 1, Kinds.row(Kinds.READ, 1), Kinds.row(Kinds.MASK, 1, 6), CALL);
        check.due("what both can is there once", lister.melted(3, 0, 0), 15 | 16 | 64);
        Kinds.callAll(lister, 2);
        check.due("all of them", lister.melted(7, 0, 0), -1);
        lister.run(0, 0);
        check.due("what is seen is not asked", lister.melted(3, 0, 0), 15 | 16 | 64);
    }

    private static void meltedNone(Check check) {
        check.promise(14, "0: none");
        DoorLister lister = four();
        check.due("of no program", lister.melted(0, 0, 0), 0);
        check.due("of no program, after", lister.melted(0, 1, 31), 0);
        for (int set = 0; set < 16; set++) {
            check.due("not after", lister.melted(set, 1, 0), 0);
            check.due("not at start", lister.melted(set, 0, 31), 0);
        }
        check.due("of empty ones", new DoorLister().melted(15, 0, 0), 0);
    }

    private static void meltedNoSuchOnes(Check check) {
        check.promise(14, "no such ones");
        DoorLister lister = new DoorLister();
        for (int p = 0; p < 4; p++) {
            Kinds.callAll(lister, p);
        }
        check.due("the last ones there are", lister.melted(15, 1, 31), -1);
        for (int out : Kinds.outside(15)) {
            check.due("set " + out, lister.melted(out, 0, 0), 0);
        }
        check.due("set 17", lister.melted(17, 0, 0), 0);
        check.due("set 31", lister.melted(31, 0, 0), 0);
        for (int out : Kinds.outside(1)) {
            check.due("phase " + out, lister.melted(15, out, 0), 0);
        }
        for (int out : Kinds.outside(31)) {
            check.due("door " + out, lister.melted(15, 0, out), 0);
            check.due("door " + out + " after", lister.melted(15, 1, out), 0);
        }
    }

    private static void fresh(Check check) {
        check.promise(15, "Those with which PROGRAM p can, but q can't");
        DoorLister lister = Kinds.of(Kinds.row(Kinds.READ, 1), Kinds.row(Kinds.MASK, 1, 3), CALL);
        Kinds.write(lister, 1, Kinds.row(Kinds.READ, 1), Kinds.row(Kinds.MASK, 1, 6), CALL, Kinds.row(Kinds.POINT), CALL);
        check.due("0 more than 1", lister.fresh(0, 1, 0, 0), 2 | 8);
        check.due("1 more than 0", lister.fresh(1, 0, 0, 0), 16 | 64);
        check.due("1 more than 0 after", lister.fresh(1, 0, 1, 0), 1 | 4 | 16 | 64);
        check.due("more than an empty one", lister.fresh(0, 3, 0, 0), 15);
        lister.feed(0, 0, 0, 0, 0);
        lister.run(0, 1);
        lister.run(1, 0);
        check.due("what is seen is not asked", lister.fresh(1, 0, 1, 0), 1 | 4 | 16 | 64);
        Kinds.callAll(lister, 2);
        check.due("all but some", lister.fresh(2, 0, 0, 0), ~15);
        check.due("all", lister.fresh(2, 3, 1, 31), -1);
        lister.copy(3, 2);
        lister.change(3, 4, Kinds.END, 0, 0, 0);
        check.due("a version that does not call", lister.fresh(2, 3, 1, 31), -1);
        check.due("as before at start", lister.fresh(2, 3, 0, 31), 0);
    }

    private static void freshNone(Check check) {
        check.promise(15, "0: none");
        DoorLister lister = new DoorLister();
        Kinds.callAll(lister, 0);
        lister.copy(1, 0);
        check.due("like ones", lister.fresh(0, 1, 0, 0), 0);
        check.due("an empty one", lister.fresh(3, 0, 0, 0), 0);
        check.due("two empty ones", lister.fresh(3, 2, 0, 0), 0);
        for (int p = 0; p < 4; p++) {
            check.due("itself", lister.fresh(p, p, 1, 31), 0);
        }
    }

    private static void freshNoSuchOnes(Check check) {
        check.promise(15, "no such ones");
        DoorLister lister = new DoorLister();
        Kinds.callAll(lister, 0);
        Kinds.callAll(lister, 3);
        check.due("the last ones there are", lister.fresh(3, 2, 1, 31), -1);
        for (int out : Kinds.outside(3)) {
            check.due("p " + out, lister.fresh(out, 1, 0, 0), 0);
            check.due("q " + out, lister.fresh(0, out, 0, 0), 0);
        }
        for (int out : Kinds.outside(1)) {
            check.due("phase " + out, lister.fresh(0, 1, out, 0), 0);
        }
        for (int out : Kinds.outside(31)) {
            check.due("door " + out, lister.fresh(0, 1, 0, out), 0);
            check.due("door " + out + " after", lister.fresh(0, 1, 1, out), 0);
        }
    }
}
