/** Promises 16 and 17: effects, and what a stranger comes to by them. */
public final class HouseTest {
    public static void main(String[] args) {
        Check check = new Check("HouseTest");
        itsNumber(check);
        noSuchDoor(check);
        noSuchArguments(check);
        noSuchPowers(check);
        tenAreThere(check);
        someCallIsInTheSet(check);
        noPowersAtFirst(check);
        allPowersThatItTakes(check);
        chainInAnyOrder(check);
        ofPrograms(check);
        phaseOneAlone(check);
        bySeen(check);
        noSuchSet(check);
        check.end();
    }

    private static void itsNumber(Check check) {
        check.promise(16, "its number");
        DoorLister lister = new DoorLister();
        int[][] edges = {{0, 0, 0, 0, 0}, {31, 31, 31, 255, 255}, {0, 0, 31, 0, 255}, {31, 30, 31, 255, 0}};
        for (int i = 0; i < edges.length; i++) {
            int[] e = edges[i];
            check.due("effect " + i, lister.effect(e[0], e[1], e[2], e[3], e[4]), i);
        }
        check.due("like ones are two", lister.effect(0, 0, 0, 0, 0), 4);
        check.due("count", lister.count(-1, 0), 5);
    }

    private static void dueRefused(Check check, int[]... wrong) {
        DoorLister lister = new DoorLister();
        for (int[] w : wrong) {
            check.due("a wrong effect", lister.effect(w[0], w[1], w[2], w[3], w[4]), -1);
        }
        check.due("none came", lister.count(-1, 0), 0);
        check.due("the next one is 0", lister.effect(0, 0, 0, 0, 0), 0);
    }

    private static void noSuchDoor(Check check) {
        check.promise(16, "NONE: no such DOOR");
        for (int out : Kinds.outside(31)) {
            dueRefused(check, new int[] {out, 0, 0, 0, 0});
        }
    }

    private static void noSuchArguments(Check check) {
        check.promise(16, "ARGUMENTS (the last below the first)");
        dueRefused(check, new int[] {0, 1, 0, 0, 0}, new int[] {0, 31, 30, 0, 0}, new int[] {0, 31, 0, 0, 0});
        for (int out : Kinds.outside(31)) {
            dueRefused(check, new int[] {0, out, 31, 0, 0}, new int[] {0, 0, out, 0, 0}, new int[] {0, out, out, 0, 0});
        }
        dueRefused(check, new int[] {0, -2, -1, 0, 0}, new int[] {0, 32, 33, 0, 0}, new int[] {0, -1, 32, 0, 0},
                new int[] {0, Kinds.BOTTOM, Kinds.TOP, 0, 0}, new int[] {0, Kinds.TOP, Kinds.BOTTOM, 0, 0});
    }

    private static void noSuchPowers(Check check) {
        check.promise(16, "POWERS (0 to 255 both)");
        for (int out : Kinds.outside(255)) {
            dueRefused(check, new int[] {0, 0, 0, out, 0}, new int[] {0, 0, 0, 0, out}, new int[] {0, 0, 0, out, out});
        }
    }

    private static void tenAreThere(Check check) {
        check.promise(16, "10 are there");
        DoorLister lister = new DoorLister();
        Kinds.callAll(lister, 0);
        for (int i = 0; i < 10; i++) {
            check.due("effect", lister.effect(31 - i, i, 31, i == 0 ? 0 : 1, i == 9 ? 128 : 1), i);
        }
        check.due("all ten count", lister.reach(1, false), 129);
        check.due("the last of them is cut", lister.cuts(1, 7), 512);
        check.due("the 11th", lister.effect(0, 0, 31, 0, 64), -1);
        check.due("the 12th", lister.effect(0, 0, 31, 0, 64), -1);
        check.due("a wrong one", lister.effect(32, 0, 31, 0, 64), -1);
        check.due("10 stay", lister.count(-1, 0), 10);
        check.due("the 11th gives nothing", lister.reach(1, false), 129);
    }

    private static void someCallIsInTheSet(Check check) {
        check.terms(17, "each EFFECT of which some CALL is in the set");
        int[][] spans = {{10, 12, 1}, {12, 12, 1}, {12, 31, 1}, {10, 10, 1}, {0, 10, 1}, {0, 31, 1}, {11, 11, 1}, {0, 9, 0},
            {13, 31, 0}, {13, 13, 0}};
        for (int[] span : spans) {
            DoorLister lister = new DoorLister();
            Kinds.callSpan(lister, 0, 5, 10, 12);
            lister.effect(5, span[0], span[1], 0, 1);
            check.due("from " + span[0] + " to " + span[1], lister.reach(1, false), span[2]);
        }
        int[] doors = {0, 4, 6, 31};
        for (int door : doors) {
            DoorLister lister = new DoorLister();
            Kinds.callSpan(lister, 0, 5, 10, 12);
            lister.effect(door, 0, 31, 0, 1);
            check.due("another door", lister.reach(1, false), 0);
        }
        int[] edges = {0, 31};
        for (int edge : edges) {
            DoorLister lister = new DoorLister();
            Kinds.callOne(lister, 0, edge, edge);
            lister.effect(edge, edge, edge, 0, 128);
            check.due("door and argument " + edge, lister.reach(1, false), 128);
        }
    }

    private static void noPowersAtFirst(Check check) {
        check.terms(17, "who has no POWERS at first");
        DoorLister lister = new DoorLister();
        Kinds.callAll(lister, 0);
        lister.effect(0, 0, 31, 1, 1);
        check.due("what it gives is not had before", lister.reach(1, false), 0);
        lister.effect(0, 0, 31, 2, 4);
        lister.effect(0, 0, 31, 4, 2);
        check.due("nor what two give one another", lister.reach(1, false), 0);
        lister.effect(0, 0, 31, 0, 0);
        check.due("nothing given is nothing had", lister.reach(1, false), 0);
        lister.effect(0, 0, 31, 0, 4);
        check.due("until one is had", lister.reach(1, false), 6);
    }

    private static void allPowersThatItTakes(Check check) {
        check.terms(17, "all of whose POWERS that it takes they have");
        DoorLister lister = new DoorLister();
        Kinds.callAll(lister, 0);
        lister.effect(0, 0, 31, 3, 128);
        lister.effect(1, 0, 31, 0, 1);
        check.due("one of two", lister.reach(1, false), 1);
        lister.effect(2, 0, 31, 1, 2);
        check.due("two of two", lister.reach(1, false), 131);
        lister.effect(3, 0, 31, 255, 0);
        lister.effect(4, 0, 31, 131, 124);
        check.due("all that are had", lister.reach(1, false), 255);
    }

    private static void chainInAnyOrder(Check check) {
        check.terms(17, "REACH: all POWERS that they can come to");
        DoorLister back = new DoorLister();
        DoorLister forth = new DoorLister();
        Kinds.callAll(back, 0);
        Kinds.callAll(forth, 0);
        for (int i = 0; i < 8; i++) {
            back.effect(i, 0, 31, i == 7 ? 0 : 1 << 6 - i, 1 << 7 - i);
            forth.effect(i, 0, 31, i == 0 ? 0 : 1 << i - 1, 1 << i);
        }
        check.due("the first step stands last", back.reach(1, false), 255);
        check.due("the first step stands first", forth.reach(1, false), 255);
        check.due("power 7 is the highest", forth.cuts(1, 7), 1);
    }

    private static void ofPrograms(Check check) {
        check.terms(17, "Of a set of programs (bits) THE LIST is what one of them NEEDS");
        DoorLister lister = new DoorLister();
        for (int p = 0; p < 4; p++) {
            Kinds.callOne(lister, p, 9, p);
            lister.effect(9, p, p, 0, 1 << p);
        }
        for (int set = 0; set < 16; set++) {
            check.due("set " + set, lister.reach(set, false), set);
        }
        lister.effect(9, 0, 0, 8, 128);
        check.due("one alone", lister.reach(1, false), 1);
        check.due("by two of them", lister.reach(9, false), 128 | 9);
        lister.copy(3, 2);
        check.due("by another code", lister.reach(9, false), 4 | 1);
    }

    private static void phaseOneAlone(Check check) {
        check.terms(17, "in PHASE 1 at least");
        DoorLister lister = Kinds.of(Kinds.row(Kinds.SET, 1, 2), Kinds.row(Kinds.CALL), Kinds.row(Kinds.POINT));
        lister.effect(0, 0, 31, 0, 1);
        check.due("at start alone", lister.reach(1, false), 0);
        lister.run(0, 0);
        check.due("seen at start alone", lister.reach(1, true), 0);
        lister.code(0, Kinds.CALL, 0, 0, 0);
        check.due("after, too", lister.reach(1, false), 1);
        check.due("not seen after yet", lister.reach(1, true), 0);
        lister.run(0, 0);
        check.due("seen after", lister.reach(1, true), 1);
    }

    private static void bySeen(Check check) {
        check.promise(17, "(seen: by what is SEEN of them in PHASE 1)");
        DoorLister lister = new DoorLister();
        Kinds.write(lister, 2, Kinds.row(Kinds.CALL), Kinds.row(Kinds.POINT), Kinds.row(Kinds.READ, 1),
                Kinds.row(Kinds.CALL));
        lister.effect(0, 3, 3, 0, 1);
        lister.effect(0, 4, 4, 0, 2);
        lister.effect(0, 0, 0, 0, 4);
        check.due("by the list", lister.reach(4, false), 7);
        lister.feed(0x03000000, 0, 0, 0, 0);
        lister.run(2, 1);
        for (int set = 0; set < 16; set++) {
            check.due("set " + set, lister.reach(set, true), set / 4 % 2);
        }
        lister.copy(2, 0);
        check.due("seen stays", lister.reach(4, true), 1);
        check.due("the list does not", lister.reach(4, false), 0);
    }

    private static void noSuchSet(Check check) {
        check.promise(17, "NONE: no such set");
        DoorLister lister = new DoorLister();
        for (int p = 0; p < 4; p++) {
            Kinds.callAll(lister, p);
        }
        lister.effect(0, 0, 31, 0, 255);
        for (int out : Kinds.outside(15)) {
            check.due("set " + out, lister.reach(out, false), -1);
            check.due("set " + out + " by seen", lister.reach(out, true), -1);
        }
        check.due("set 17", lister.reach(17, false), -1);
        check.due("the highest set", lister.reach(15, false), 255);
        check.due("the empty set is one", lister.reach(0, false), 0);
        check.due("the empty set is one by seen", lister.reach(0, true), 0);
    }
}
