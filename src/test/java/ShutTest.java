/** Promises 18 and 19: what shuts a power, at what cost. */
public final class ShutTest {
    public static void main(String[] args) {
        Check check = new Check("ShutTest");
        notInReach(check);
        fewestCalls(check);
        fewestEffects(check);
        theLeast(check);
        oneCall(check);
        mostCalls(check);
        allTen(check);
        othersLoseSome(check);
        nothingIsTakenOutForGood(check);
        seenStays(check);
        seenOfTheSet(check);
        seenInPhaseOne(check);
        seenButNotInTheList(check);
        cantBe(check);
        noSuchOnes(check);
        check.end();
    }

    private static void dueShut(Check check, DoorLister lister, int power, int calls, int effects) {
        check.due("cuts(1, " + power + ")", lister.cuts(1, power), effects);
        check.due("shut(1, " + power + ")", lister.shut(1, power), calls);
    }

    private static void notInReach(Check check) {
        check.promise(18, "(0: it is not in REACH)");
        DoorLister lister = new DoorLister();
        dueShut(check, lister, 0, 0, 0);
        Kinds.callAll(lister, 0);
        lister.effect(0, 0, 31, 0, 1);
        lister.effect(1, 0, 31, 4, 2);
        dueShut(check, lister, 1, 0, 0);
        dueShut(check, lister, 7, 0, 0);
        check.due("of no program", lister.shut(0, 0), 0);
        check.due("of no program", lister.cuts(0, 0), 0);
        check.due("of empty programs", lister.shut(14, 0), 0);
        dueShut(check, lister, 0, 32, 1);
        lister.feed(0, 0, 0, 0, 0);
        lister.run(0, 2);
        check.due("what is seen does not hinder it", lister.shut(1, 1), 0);
    }

    /** One effect of many calls against two of few. */
    private static void fewestCalls(Check check) {
        check.terms(18, "that with which fewest CALLS are taken out");
        DoorLister lister = new DoorLister();
        Kinds.callSpan(lister, 0, 1, 0, 31);
        Kinds.callSpan(lister, 0, 2, 0, 4);
        lister.effect(1, 0, 9, 0, 1);
        lister.effect(2, 0, 1, 1, 2);
        lister.effect(2, 4, 4, 1, 2);
        dueShut(check, lister, 1, 3, 6);
        dueShut(check, lister, 0, 10, 1);
        DoorLister wide = new DoorLister();
        Kinds.callSpan(wide, 0, 3, 7, 8);
        Kinds.callSpan(wide, 0, 4, 0, 2);
        wide.effect(4, 1, 3, 0, 1);
        wide.effect(3, 0, 31, 1, 2);
        wide.effect(4, 0, 0, 0, 4);
        check.terms(18, "all CALLS of THE LIST that are of them");
        dueShut(check, wide, 1, 2, 1);
        dueShut(check, wide, 0, 2, 1);
        dueShut(check, wide, 2, 1, 4);
    }

    /** The wide effect alone takes the same calls out as the two narrow ones. */
    private static void fewestEffects(Check check) {
        check.terms(19, "of like ones with fewest EFFECTS");
        DoorLister lister = new DoorLister();
        Kinds.callSpan(lister, 0, 1, 0, 3);
        lister.effect(1, 0, 1, 0, 1);
        lister.effect(1, 2, 3, 0, 1);
        lister.effect(1, 0, 31, 0, 0);
        dueShut(check, lister, 0, 4, 4);
        DoorLister empty = new DoorLister();
        Kinds.callOne(empty, 0, 1, 0);
        empty.effect(1, 5, 5, 0, 1);
        empty.effect(1, 0, 0, 0, 1);
        dueShut(check, empty, 0, 1, 2);
    }

    private static void theLeast(Check check) {
        check.terms(19, "of like ones the least, as bits");
        DoorLister lister = new DoorLister();
        Kinds.callOne(lister, 0, 1, 5);
        Kinds.callOne(lister, 0, 2, 6);
        lister.effect(2, 6, 6, 1, 2);
        lister.effect(1, 5, 5, 0, 1);
        lister.effect(1, 0, 31, 0, 0);
        dueShut(check, lister, 1, 1, 1);
        dueShut(check, lister, 0, 1, 2);
        DoorLister pairs = new DoorLister();
        for (int door = 0; door < 4; door++) {
            Kinds.callOne(pairs, 0, door, 3);
        }
        pairs.effect(0, 3, 3, 0, 1);
        pairs.effect(1, 3, 3, 1, 4);
        pairs.effect(2, 3, 3, 0, 2);
        pairs.effect(3, 3, 3, 2, 4);
        dueShut(check, pairs, 2, 2, 5);
    }

    /** An effect with one call in the list, at both ends of the arguments. */
    private static void oneCall(Check check) {
        check.promise(18, "how many CALLS are taken out");
        int[] edges = {0, 31};
        for (int edge : edges) {
            DoorLister lister = new DoorLister();
            Kinds.callOne(lister, 0, edge, edge);
            lister.effect(edge, edge, edge, 0, 1);
            dueShut(check, lister, 0, 1, 1);
        }
    }

    private static void mostCalls(Check check) {
        check.promise(18, "how many CALLS are taken out");
        DoorLister lister = new DoorLister();
        Kinds.callAll(lister, 0);
        for (int e = 0; e < 10; e++) {
            lister.effect(e + 22, 0, 31, 0, 1);
        }
        dueShut(check, lister, 0, 320, 1023);
    }

    private static void allTen(Check check) {
        check.promise(19, "EFFECTS that are CUT then, as bits");
        for (int e = 0; e < 10; e++) {
            DoorLister lister = new DoorLister();
            Kinds.callAll(lister, 0);
            for (int each = 0; each < 10; each++) {
                lister.effect(each, each, each + 1, 0, each == e ? 64 : 1);
            }
            dueShut(check, lister, 6, 2, 1 << e);
            dueShut(check, lister, 0, 18, 1023 & ~(1 << e));
        }
    }

    /** Calls of two effects are counted once, and an effect that lost all its calls is shut, too. */
    private static void othersLoseSome(Check check) {
        check.terms(18, "(other EFFECTS may lose some by that)");
        DoorLister lister = new DoorLister();
        Kinds.callSpan(lister, 0, 3, 0, 9);
        lister.effect(3, 0, 4, 0, 1);
        lister.effect(3, 3, 9, 0, 1);
        lister.effect(3, 4, 4, 0, 2);
        dueShut(check, lister, 0, 10, 3);
        dueShut(check, lister, 1, 1, 4);
        DoorLister two = new DoorLister();
        Kinds.callSpan(two, 0, 3, 0, 1);
        two.effect(3, 0, 0, 0, 1);
        two.effect(3, 1, 1, 0, 1);
        two.effect(3, 0, 1, 0, 2);
        dueShut(check, two, 0, 2, 4);
        dueShut(check, two, 1, 2, 4);
    }

    private static void nothingIsTakenOutForGood(Check check) {
        check.promise(19, "EFFECTS that are CUT then");
        DoorLister lister = new DoorLister();
        Kinds.callSpan(lister, 0, 3, 0, 9);
        lister.effect(3, 0, 9, 0, 1);
        for (int again = 0; again < 2; again++) {
            dueShut(check, lister, 0, 10, 1);
            check.due("reach", lister.reach(1, false), 1);
            check.due("needed", lister.needed(0, 1, 3), 1023);
            check.due("effects", lister.count(-1, 0), 1);
        }
    }

    private static DoorLister reader() {
        return Kinds.of(Kinds.row(Kinds.POINT), Kinds.row(Kinds.READ, 1), Kinds.row(Kinds.CALL));
    }

    private static void runBy(DoorLister lister, int p, int argument) {
        lister.feed(argument << 24, 0, 0, 0, 0);
        lister.run(p, 1);
    }

    private static void seenStays(Check check) {
        check.terms(18, "None that is SEEN of a program of the set in PHASE 1 may be taken out");
        int[] edges = {0, 9, 10, 20, 21, 31};
        for (int seen : edges) {
            DoorLister lister = reader();
            lister.effect(0, 10, 20, 0, 1);
            runBy(lister, 0, seen);
            boolean stays = 10 <= seen && seen <= 20;
            check.due("shut, seen " + seen, lister.shut(1, 0), stays ? -1 : 11);
            check.due("cuts, seen " + seen, lister.cuts(1, 0), stays ? -1 : 1);
        }
        DoorLister dear = reader();
        dear.effect(0, 0, 3, 0, 1);
        dear.effect(0, 4, 15, 1, 2);
        dueShut(check, dear, 1, 4, 1);
        runBy(dear, 0, 3);
        dueShut(check, dear, 1, 12, 2);
        runBy(dear, 0, 15);
        dueShut(check, dear, 1, -1, -1);
    }

    private static void seenOfTheSet(Check check) {
        check.terms(18, "SEEN of a program of the set");
        DoorLister lister = reader();
        lister.effect(0, 0, 3, 0, 1);
        lister.effect(0, 4, 15, 1, 2);
        lister.copy(1, 0);
        runBy(lister, 1, 2);
        for (int set = 1; set < 16; set++) {
            boolean holds = set / 2 % 2 == 1;
            boolean empty = set % 4 == 0;
            check.due("shut, set " + set, lister.shut(set, 1), empty ? 0 : holds ? 12 : 4);
            check.due("cuts, set " + set, lister.cuts(set, 1), empty ? 0 : holds ? 2 : 1);
        }
        runBy(lister, 2, 2);
        check.due("an empty program sees none", lister.shut(5, 1), 4);
    }

    private static void seenInPhaseOne(Check check) {
        check.terms(18, "SEEN of a program of the set in PHASE 1");
        DoorLister lister = Kinds.of(Kinds.row(Kinds.CALL), Kinds.row(Kinds.POINT), Kinds.row(Kinds.READ, 1),
                Kinds.row(Kinds.CALL));
        lister.effect(0, 0, 3, 0, 1);
        lister.run(0, 0);
        check.due("it is seen at start", lister.seen(0, 0, 0), 1);
        dueShut(check, lister, 0, 4, 1);
        runBy(lister, 0, 0);
        check.due("it is seen after", lister.seen(0, 1, 0), 1);
        dueShut(check, lister, 0, -1, -1);
    }

    /** A call that is no more in the list is not taken out of it, so that it was seen does not hinder. */
    private static void seenButNotInTheList(Check check) {
        check.terms(18, "all CALLS of THE LIST that are of them are taken out of it");
        DoorLister lister = reader();
        lister.effect(0, 16, 17, 0, 4);
        runBy(lister, 0, 17);
        dueShut(check, lister, 2, -1, -1);
        lister.change(0, 1, Kinds.SET, 1, 16, 0);
        dueShut(check, lister, 2, 1, 1);
        lister.change(0, 1, Kinds.SET, 1, 17, 0);
        dueShut(check, lister, 2, -1, -1);
        lister.copy(0, 3);
        dueShut(check, lister, 2, 0, 0);
    }

    private static void cantBe(Check check) {
        DoorLister lister = reader();
        lister.effect(0, 0, 31, 0, 1);
        lister.effect(0, 8, 8, 0, 2);
        lister.effect(0, 9, 9, 2, 1);
        runBy(lister, 0, 8);
        check.promise(18, "NONE: it can't be");
        check.due("power 0", lister.shut(1, 0), -1);
        check.due("power 1", lister.shut(1, 1), -1);
        check.promise(19, "NONE: as shut()");
        check.due("power 0", lister.cuts(1, 0), -1);
        check.due("power 1", lister.cuts(1, 1), -1);
        check.due("another power", lister.cuts(1, 2), 0);
    }

    private static void noSuchOnes(Check check) {
        DoorLister lister = new DoorLister();
        for (int p = 0; p < 4; p++) {
            Kinds.callAll(lister, p);
        }
        lister.effect(31, 31, 31, 0, 255);
        for (int out : Kinds.outside(15)) {
            check.promise(18, "no such ones");
            check.due("set " + out, lister.shut(out, 0), -1);
            check.promise(19, "NONE: as shut()");
            check.due("set " + out, lister.cuts(out, 0), -1);
        }
        for (int out : Kinds.outside(7)) {
            check.promise(18, "no such ones");
            check.due("power " + out, lister.shut(15, out), -1);
            check.due("power " + out + " of none", lister.shut(0, out), -1);
            check.promise(19, "NONE: as shut()");
            check.due("power " + out, lister.cuts(15, out), -1);
            check.due("power " + out + " of none", lister.cuts(0, out), -1);
        }
        for (int power = 0; power < 8; power++) {
            check.promise(18, "how many CALLS are taken out");
            check.due("power " + power, lister.shut(15, power), 1);
            check.promise(19, "EFFECTS that are CUT then, as bits");
            check.due("power " + power, lister.cuts(15, power), 1);
        }
    }
}
