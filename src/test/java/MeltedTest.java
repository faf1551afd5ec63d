/** Promises 14 and 15: lists of several programs. */
public final class MeltedTest {
    public static void main(String[] args) {
        Check check = new Check("MeltedTest");
        DoorLister lister = new DoorLister();
        for (int p = 0; p < 4; p++) {
            Kinds.write(lister, p, Kinds.row(Kinds.SET, 1, p), Kinds.row(Kinds.CALL), Kinds.row(Kinds.POINT),
                    Kinds.row(Kinds.SET, 0, 31), Kinds.row(Kinds.ADD, 1, 28), Kinds.row(Kinds.CALL));
        }
        for (int set = 0; set < 16; set++) {
            check.due("melted at start", lister.melted(set, 0, 0), set);
            check.due("melted after", lister.melted(set, 1, 31), set << 28);
            check.due("not there", lister.melted(set, 1, 0), 0);
        }
        int[] outs = {-1, 32, Integer.MIN_VALUE, Integer.MAX_VALUE};
        for (int out : outs) {
            check.due("melted", lister.melted(out, 0, 0), 0);
            check.due("melted", lister.melted(15, out, 0), 0);
            check.due("melted", lister.melted(15, 0, out), 0);
            check.due("fresh", lister.fresh(out, 1, 0, 0), 0);
            check.due("fresh", lister.fresh(0, out, 0, 0), 0);
            check.due("fresh", lister.fresh(0, 1, out, 0), 0);
            check.due("fresh", lister.fresh(0, 1, 0, out), 0);
        }
        check.due("melted(16, 0, 0)", lister.melted(16, 0, 0), 0);
        check.due("melted(15, 2, 0)", lister.melted(15, 2, 0), 0);
        check.due("fresh(4, 0, 0, 0)", lister.fresh(4, 0, 0, 0), 0);
        check.due("fresh(0, 4, 0, 0)", lister.fresh(0, 4, 0, 0), 0);
        check.due("fresh(0, 1, 2, 0)", lister.fresh(0, 1, 2, 0), 0);
        fresh(check);
        check.end();
    }

    private static void fresh(Check check) {
        DoorLister lister = new DoorLister();
        Kinds.write(lister, 0, Kinds.row(Kinds.READ, 1), Kinds.row(Kinds.MASK, 1, 3), Kinds.row(Kinds.CALL));
        Kinds.write(lister, 1, Kinds.row(Kinds.READ, 1), Kinds.row(Kinds.MASK, 1, 6), Kinds.row(Kinds.CALL),
                Kinds.row(Kinds.POINT), Kinds.row(Kinds.CALL));
        check.due("0 more than 1", lister.fresh(0, 1, 0, 0), 2 | 8);
        check.due("1 more than 0", lister.fresh(1, 0, 0, 0), 16 | 64);
        check.due("1 more than 0 after", lister.fresh(1, 0, 1, 0), 1 | 4 | 16 | 64);
        check.due("0 more than 1 after", lister.fresh(0, 1, 1, 0), 0);
        check.due("more than an empty one", lister.fresh(0, 3, 0, 0), 15);
        check.due("an empty one", lister.fresh(3, 0, 0, 0), 0);
        check.due("itself", lister.fresh(1, 1, 0, 0), 0);
        lister.run(1, 0);
        check.due("what is seen is not asked", lister.fresh(1, 0, 1, 0), 1 | 4 | 16 | 64);
    }
}
