import java.util.ArrayList;
import java.util.List;

/**
 * Terms: "A call that is refused (NONE, false) changes nothing but the tape, where it is told". Each refused call
 * goes to a new object; all that the object tells then is what an object tells that was not asked.
 */
public final class RefusedTest {
    /** A call that is refused; a boolean counts 1 or 0. */
    private interface Refused {
        long ask(DoorLister lister);
    }

    private static final int TOP = Kinds.TOP;
    private static final int BOTTOM = Kinds.BOTTOM;

    private final Check check;
    private final boolean full;
    private final List<Long> untouched;

    private RefusedTest(Check check, boolean full) {
        this.check = check;
        this.full = full;
        untouched = picture(made(full));
    }

    public static void main(String[] args) {
        Check check = new Check("RefusedTest");
        RefusedTest some = new RefusedTest(check, false);
        some.codes();
        some.effects();
        some.runs();
        some.questions();
        new RefusedTest(check, true).whereThereIsNoRoom();
        check.end();
    }

    /** Codes of several lengths, seen calls, effects and a tape; full: with room for no more of each. */
    private static DoorLister made(boolean full) {
        DoorLister lister = new DoorLister();
        Kinds.callAll(lister, 0);
        Kinds.echo(lister, 1);
        Kinds.callOne(lister, 2, 1, 2);
        for (int i = lister.count(0, 0); full && i < 24; i++) {
            lister.code(0, Kinds.CALL, 0, 0, 0);
        }
        lister.effect(1, 2, 2, 0, 128);
        for (int e = 0; e < (full ? 9 : 3); e++) {
            lister.effect(e % 3, e, 2 * e, e == 0 ? 0 : 1 << e - 1, 1 << e & 127);
        }
        lister.feed(0x01020304, 0, 0, 0, 0);
        lister.run(0, 2);
        lister.run(2, 0);
        lister.run(1, 0);
        for (int i = 0; i < (full ? 4 : 2); i++) {
            lister.feed(0x05060708 + i, 0, 0, 0, 0x01010109);
        }
        return lister;
    }

    private static List<Long> picture(DoorLister lister) {
        List<Long> told = new ArrayList<>();
        for (int p = 0; p < 4; p++) {
            for (int what = 0; what < 5; what++) {
                told.add((long) lister.count(p, what));
            }
            for (int i = 0; i < lister.count(p, 0); i++) {
                for (int what = 0; what < 5; what++) {
                    told.add((long) lister.look(p, i, what));
                }
            }
            for (int phase = 0; phase < 2; phase++) {
                told.add((long) lister.spans(p, phase));
                for (int door = 0; door < 3; door++) {
                    told.add((long) lister.needed(p, phase, door));
                    told.add((long) lister.seen(p, phase, door));
                }
            }
        }
        told.add((long) lister.ended());
        told.add((long) lister.count(-1, 0));
        told.add((long) lister.reach(15, false));
        told.add((long) lister.reach(15, true));
        for (int power = 0; power < 8; power++) {
            told.add((long) lister.shut(7, power));
            told.add((long) lister.cuts(15, power));
        }
        int bytes = lister.count(-1, 1);
        told.add((long) bytes);
        told.add((long) lister.run(1, bytes));
        told.add((long) lister.seen(1, 0, 0));
        return told;
    }

    private void due(int promise, String call, long answer, Refused refused) {
        check.terms(promise, "A call that is refused (NONE, false) changes nothing");
        DoorLister lister = made(full);
        check.due(call, refused.ask(lister), answer);
        check.due("all that is told behind " + call, picture(lister).equals(untouched), true);
    }

    private void codes() {
        int[][] wrong = {{4, 0, 0, 0, 0}, {-1, 0, 0, 0, 0}, {0, 10, 0, 0, 0}, {0, -1, 0, 0, 0}, {1, 0, 2, 0, 0},
            {1, 0, -1, 0, 0}, {2, 0, 0, 32, 0}, {2, 0, 0, -1, 0}, {3, 0, 0, 0, 25}, {3, 0, 0, 0, -1}, {TOP, 0, 0, 0, 0},
            {3, BOTTOM, TOP, BOTTOM, TOP}};
        for (int[] w : wrong) {
            due(2, "code", -1, lister -> lister.code(w[0], w[1], w[2], w[3], w[4]));
            due(3, "change", 0, lister -> lister.change(w[0], 0, w[1], w[2], w[3], w[4]) ? 1 : 0);
        }
        int[][] places = {{0, 5}, {0, -1}, {1, 3}, {2, 4}, {2, 24}, {3, 0}, {0, TOP}, {0, BOTTOM}};
        for (int[] place : places) {
            due(3, "change", 0, lister -> lister.change(place[0], place[1], Kinds.END, 1, 3, 4) ? 1 : 0);
        }
        int[][] pairs = {{0, 0}, {3, 3}, {0, 4}, {4, 0}, {-1, 1}, {1, -1}, {TOP, 0}, {0, BOTTOM}};
        for (int[] pair : pairs) {
            due(4, "copy", 0, lister -> lister.copy(pair[0], pair[1]) ? 1 : 0);
        }
    }

    private void effects() {
        int[][] wrong = {{32, 0, 31, 0, 255}, {-1, 0, 31, 0, 255}, {0, 2, 1, 0, 255}, {0, -1, 31, 0, 255},
            {0, 0, 32, 0, 255}, {0, 0, 31, 256, 255}, {0, 0, 31, -1, 255}, {0, 0, 31, 0, 256}, {0, 0, 31, 0, -1}};
        for (int[] w : wrong) {
            due(16, "effect", -1, lister -> lister.effect(w[0], w[1], w[2], w[3], w[4]));
        }
    }

    private void runs() {
        int[][] wrong = {{0, 41}, {1, 41}, {1, -1}, {1, TOP}, {1, BOTTOM}, {4, 0}, {4, 40}, {-1, 0}, {-1, 40}, {TOP, 1}};
        for (int[] w : wrong) {
            due(11, "run", -1, lister -> lister.run(w[0], w[1]));
        }
    }

    private void questions() {
        due(5, "needed", 0, lister -> lister.needed(4, 0, 0));
        due(6, "spans", -1, lister -> lister.spans(0, 2));
        due(7, "span", -1, lister -> lister.span(0, 0, 32, 0));
        due(8, "steps", -1, lister -> lister.steps(0, 0, 0, 32));
        due(9, "way", -1, lister -> lister.way(0, 0, 0, 0, 3));
        due(13, "seen", 0, lister -> lister.seen(0, 0, 32));
        due(14, "melted", 0, lister -> lister.melted(16, 0, 0));
        due(15, "fresh", 0, lister -> lister.fresh(0, 4, 0, 0));
        due(17, "reach", -1, lister -> lister.reach(16, true));
        due(18, "shut", -1, lister -> lister.shut(7, 8));
        due(18, "shut that can't be", -1, lister -> lister.shut(7, 7));
        due(19, "cuts", -1, lister -> lister.cuts(16, 0));
        due(19, "cuts that can't be", -1, lister -> lister.cuts(7, 7));
        due(20, "look", -1, lister -> lister.look(3, 0, 0));
        due(21, "count", -1, lister -> lister.count(-1, 2));
    }

    private void whereThereIsNoRoom() {
        due(2, "code where 24 are", -1, lister -> lister.code(0, Kinds.END, 1, 31, 24));
        due(3, "change behind 24", 0, lister -> lister.change(0, 24, Kinds.END, 1, 31, 24) ? 1 : 0);
        due(10, "feed where 80 are", -1, lister -> lister.feed(-1, -1, -1, -1, -1));
        due(11, "run by 81 of 80", -1, lister -> lister.run(1, 81));
        due(11, "run of none by 80", -1, lister -> lister.run(4, 80));
        due(16, "effect where 10 are", -1, lister -> lister.effect(0, 0, 31, 0, 255));
    }
}
