/** Promises 20 and 21. */
public final class LookCountTest {
    public static void main(String[] args) {
        Check check = new Check("LookCountTest");
        looks(check);
        comesTo(check);
        counts(check);
        check.end();
    }

    private static void looks(Check check) {
        DoorLister lister = new DoorLister();
        for (int kind = 0; kind < 10; kind++) {
            lister.code(2, kind, kind % 2, kind + 20, 24 - kind);
        }
        for (int kind = 0; kind < 10; kind++) {
            check.due("kind", lister.look(2, kind, 0), kind);
            check.due("x", lister.look(2, kind, 1), kind % 2);
            check.due("n", lister.look(2, kind, 2), kind + 20);
            check.due("to", lister.look(2, kind, 3), 24 - kind);
        }
        int[] outs = {-1, 10, Integer.MIN_VALUE, Integer.MAX_VALUE};
        for (int out : outs) {
            check.due("look", lister.look(out, 0, 0), -1);
            check.due("look", lister.look(2, out, 0), -1);
            check.due("look", lister.look(2, 0, out), -1);
        }
        check.due("look(4, 0, 0)", lister.look(4, 0, 0), -1);
        check.due("look(2, 0, 5)", lister.look(2, 0, 5), -1);
        check.due("look(2, 10, 4)", lister.look(2, 10, 4), -1);
        check.due("look(1, 0, 4)", lister.look(1, 0, 4), -1);
    }

    private static void comesTo(Check check) {
        DoorLister lister = new DoorLister();
        Kinds.write(lister, 0, Kinds.row(Kinds.READ, 0), Kinds.row(Kinds.MASK, 0, 7), Kinds.row(Kinds.IF, 0, 8, 5),
                Kinds.row(Kinds.CALL), Kinds.row(Kinds.CALL), Kinds.row(Kinds.POINT), Kinds.row(Kinds.IF, 0, 7, 8),
                Kinds.row(Kinds.GO, 0, 0, 9), Kinds.row(Kinds.END), Kinds.row(Kinds.END), Kinds.row(Kinds.GO, 0, 0, 0));
        int[] want = {1, 1, 1, 0, 0, 1, 1, 1, 1, 1, 0};
        for (int i = 0; i < want.length; i++) {
            check.due("comes to " + i, lister.look(0, i, 4), want[i]);
        }
        lister.change(0, 1, Kinds.MASK, 0, 15, 0);
        check.due("comes to 3 then", lister.look(0, 3, 4), 1);
        lister.change(0, 4, Kinds.END, 0, 0, 0);
        lister.change(0, 2, Kinds.IF, 0, 0, 5);
        check.due("comes to 4 still", lister.look(0, 4, 4), 1);
        check.due("no more to 5", lister.look(0, 5, 4), 0);
    }

    private static void counts(Check check) {
        DoorLister lister = new DoorLister();
        Kinds.write(lister, 1, Kinds.row(Kinds.READ, 0), Kinds.row(Kinds.READ, 1), Kinds.row(Kinds.CALL),
                Kinds.row(Kinds.POINT), Kinds.row(Kinds.MASK, 1, 5), Kinds.row(Kinds.CALL));
        check.due("instructions", lister.count(1, 0), 6);
        check.due("needed at start", lister.count(1, 1), 1024);
        check.due("needed after", lister.count(1, 2), 128);
        check.due("seen at start", lister.count(1, 3), 0);
        lister.feed(0x01020000, 0, 0, 0, 0);
        check.due("bytes", lister.count(-1, 1), 20);
        lister.run(1, 2);
        lister.feed(0x0103, 0, 0, 0, 0);
        lister.run(1, 4);
        lister.feed(0x01030000, 0, 0, 0, 0);
        lister.run(1, 2);
        check.due("seen at start", lister.count(1, 3), 3);
        check.due("seen after", lister.count(1, 4), 3);
        lister.effect(0, 0, 0, 0, 0);
        check.due("effects", lister.count(-1, 0), 1);
        check.due("bytes", lister.count(-1, 1), 0);
        int[] outs = {-1, 5, Integer.MIN_VALUE, Integer.MAX_VALUE};
        for (int out : outs) {
            check.due("count", lister.count(1, out), -1);
            check.due("count", lister.count(-1, out), -1);
        }
        check.due("count(-1, 2)", lister.count(-1, 2), -1);
        check.due("count(-2, 0)", lister.count(-2, 0), -1);
        check.due("count(4, 0)", lister.count(4, 0), -1);
    }
}
