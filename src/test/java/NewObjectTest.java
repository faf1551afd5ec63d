/** Promise 1. */
public final class NewObjectTest {
    public static void main(String[] args) {
        Check check = new Check("NewObjectTest");
        DoorLister lister = null;
        for (int p = 0; p < 4; p++) {
            lister = new DoorLister();
            for (int what = 0; what < 5; what++) {
                check.due("count(" + p + ", " + what + ")", lister.count(p, what), 0);
            }
            for (int phase = 0; phase < 2; phase++) {
                check.due("spans", lister.spans(p, phase), 0);
                for (int door = 0; door < 32; door++) {
                    check.due("needed", lister.needed(p, phase, door), 0);
                    check.due("seen", lister.seen(p, phase, door), 0);
                }
            }
            check.due("look", lister.look(p, 0, 0), -1);
        }
        DoorLister other = new DoorLister();
        check.due("effects", other.count(-1, 0), 0);
        check.due("bytes", other.count(-1, 1), 0);
        check.due("ended", other.ended(), -1);
        check.due("reach", other.reach(15, false), 0);
        check.due("reach by seen", other.reach(15, true), 0);
        check.due("NONE", DoorLister.NONE, -1);
        other.code(0, Kinds.CALL, 0, 0, 0);
        other.feed(0, 0, 0, 0, 0);
        check.due("another object's code", lister.count(0, 0), 0);
        check.due("another object's tape", lister.count(-1, 1), 0);
        check.end();
    }
}
