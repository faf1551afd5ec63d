/** Promise 1. */
public final class NewObjectTest {
    public static void main(String[] args) {
        Check check = new Check("NewObjectTest");
        emptyCodes(check);
        firstInstruction(check);
        noEffects(check);
        nothingSeen(check);
        nothingElse(check);
        objectsAreApart(check);
        check.due("NONE", DoorLister.NONE, -1);
        check.end();
    }

    private static void emptyCodes(Check check) {
        check.promise(1, "Empty CODES");
        for (int p = 0; p < 4; p++) {
            DoorLister lister = new DoorLister();
            for (int what = 0; what < 3; what++) {
                check.due("count(" + p + ", " + what + ")", lister.count(p, what), 0);
            }
            for (int what = 0; what < 5; what++) {
                check.due("look(" + p + ", 0, " + what + ")", lister.look(p, 0, what), -1);
            }
            for (int phase = 0; phase < 2; phase++) {
                check.due("spans", lister.spans(p, phase), 0);
                check.due("span", lister.span(p, phase, 0, 0), -1);
                check.due("steps", lister.steps(p, phase, 0, 0), -1);
                check.due("way", lister.way(p, phase, 0, 0, 0), -1);
                for (int door = 0; door < 32; door++) {
                    check.due("needed", lister.needed(p, phase, door), 0);
                    check.due("melted", lister.melted(15, phase, door), 0);
                }
            }
        }
    }

    private static void firstInstruction(Check check) {
        check.promise(1, "Empty CODES");
        for (int p = 0; p < 4; p++) {
            DoorLister lister = new DoorLister();
            check.due("nothing to change", lister.change(p, 0, Kinds.CALL, 0, 0, 0), false);
            check.due("a run makes no call", lister.run(p, 0), 0);
            check.due("it is at END at once", lister.ended(), 0);
            check.due("the first is 0", lister.code(p, Kinds.CALL, 0, 0, 0), 0);
        }
    }

    private static void noEffects(Check check) {
        check.promise(1, "no EFFECTS");
        DoorLister lister = new DoorLister();
        check.due("count", lister.count(-1, 0), 0);
        Kinds.callAll(lister, 0);
        for (int set = 0; set < 16; set++) {
            check.due("reach by all calls", lister.reach(set, false), 0);
        }
        for (int power = 0; power < 8; power++) {
            check.due("nothing to shut", lister.shut(1, power), 0);
            check.due("nothing to cut", lister.cuts(1, power), 0);
        }
        check.due("the first is 0", lister.effect(0, 0, 0, 0, 0), 0);
    }

    private static void nothingSeen(Check check) {
        check.promise(1, "nothing SEEN");
        for (int p = 0; p < 4; p++) {
            DoorLister lister = new DoorLister();
            Kinds.callAll(lister, p);
            for (int phase = 0; phase < 2; phase++) {
                check.due("count", lister.count(p, 3 + phase), 0);
                for (int door = 0; door < 32; door++) {
                    check.due("seen", lister.seen(p, phase, door), 0);
                }
            }
            lister.effect(0, 0, 31, 0, 255);
            check.due("reach by what is seen", lister.reach(15, true), 0);
            check.due("reach by the list", lister.reach(15, false), 255);
        }
    }

    private static void nothingElse(Check check) {
        DoorLister lister = new DoorLister();
        check.promise(12, "NONE: there was none");
        check.due("ended", lister.ended(), -1);
        check.promise(11, "it has not so many");
        check.due("one byte of a new tape", lister.run(0, 1), -1);
        check.promise(21, "bytes of the tape");
        check.due("count(-1, 1)", lister.count(-1, 1), 0);
    }

    private static void objectsAreApart(Check check) {
        check.terms(1, "All memory is the maker's own");
        DoorLister lister = new DoorLister();
        DoorLister other = new DoorLister();
        Kinds.callAll(other, 0);
        other.effect(0, 0, 31, 0, 255);
        other.feed(0, 0, 0, 0, 0);
        other.run(0, 2);
        other.feed(0, 0, 0, 0, 0);
        check.due("another object's code", lister.count(0, 0), 0);
        check.due("another object's calls", lister.count(0, 1), 0);
        check.due("another object's seen", lister.count(0, 3), 0);
        check.due("another object's effects", lister.count(-1, 0), 0);
        check.due("another object's tape", lister.count(-1, 1), 0);
        check.due("another object's run", lister.ended(), -1);
    }
}
