import java.util.Random;

/** All promises: random runs of calls, each answered by the class and by the plain lister. */
public final class PlainModelTest {
    private static final int RUNS = 1500;
    private static final int CALLS = 512;
    private static final int CALLS_AT_ONCE = 33;
    private static final int[] FAR = {-1, -2, 2, 4, 5, 8, 10, 16, 24, 25, 32, 255, 256, Integer.MIN_VALUE,
        Integer.MAX_VALUE};
    private static final int[] KINDS = {0, 0, 1, 1, 1, 2, 3, 3, 3, 4, 5, 5, 5, 6, 7, 7, 7, 7, 8, 9};

    private final Random random;
    private final Check check;
    private final DoorLister lister = new DoorLister();
    private final PlainLister plain = new PlainLister();
    private final boolean narrow;
    /** One number of so many is drawn from far outside. */
    private final int oneFarIn;
    private final StringBuilder told = new StringBuilder();
    private int calls = 0;

    private PlainModelTest(long seed, Check check) {
        random = new Random(seed);
        narrow = random.nextBoolean();
        oneFarIn = random.nextInt(4) == 0 ? 8 : 100;
        this.check = check;
    }

    public static void main(String[] args) {
        int runs = args.length > 0 ? Integer.parseInt(args[0]) : RUNS;
        long first = args.length > 1 ? Long.parseLong(args[1]) : 0;
        Check check = new Check("PlainModelTest");
        for (long seed = first; seed < first + runs && check.wrong() == 0; seed++) {
            PlainModelTest run = new PlainModelTest(seed, check);
            run.play();
            if (check.wrong() != 0) {
                System.out.println("seed " + seed + ":" + run.told);
            }
        }
        check.end();
    }

    private int upTo(int most) {
        return random.nextInt(oneFarIn) == 0 ? FAR[random.nextInt(FAR.length)] : random.nextInt(most + 1);
    }

    private int door() {
        return narrow ? upTo(3) : upTo(31);
    }

    private int argument() {
        return narrow ? upTo(7) : upTo(31);
    }

    private void due(String call, long got, long want, int... arguments) {
        StringBuilder text = new StringBuilder(call).append('(');
        for (int a : arguments) {
            text.append(a).append(' ');
        }
        text.append(')');
        told.append("\n  ").append(text).append(" -> ").append(got);
        check.due(text.toString(), got, want);
        calls++;
    }

    private void play() {
        int programs = 1 + random.nextInt(4);
        int lengths = 1 + random.nextInt(24);
        for (int p = 0; p < programs; p++) {
            for (int i = 0; i < lengths; i++) {
                code(p);
            }
        }
        for (int i = random.nextInt(11); i > 0; i--) {
            effect();
        }
        while (calls + CALLS_AT_ONCE <= CALLS && check.wrong() == 0) {
            some(upTo(3));
        }
    }

    private void some(int p) {
        int choice = random.nextInt(40);
        if (choice < 3) {
            change(p);
        } else if (choice < 4) {
            code(p);
        } else if (choice < 5) {
            int q = upTo(3);
            due("copy", lister.copy(p, q) ? 1 : 0, plain.copy(p, q) ? 1 : 0, p, q);
        } else if (choice < 6) {
            effect();
        } else if (choice < 12) {
            run(p);
        } else if (choice < 22) {
            list(p);
        } else if (choice < 28) {
            way(p);
        } else if (choice < 36) {
            house();
        } else {
            look(p);
        }
    }

    private int kind() {
        return random.nextInt(100) == 0 ? upTo(9) : KINDS[random.nextInt(KINDS.length)];
    }

    private void code(int p) {
        int[] a = {p, kind(), upTo(1), argument(), upTo(24)};
        due("code", lister.code(a[0], a[1], a[2], a[3], a[4]), plain.code(a[0], a[1], a[2], a[3], a[4]), a);
    }

    private void change(int p) {
        int i = upTo(Math.max(0, plain.count(p, 0)));
        int[] a = {p, i, kind(), upTo(1), argument(), upTo(24)};
        due("change", lister.change(a[0], a[1], a[2], a[3], a[4], a[5]) ? 1 : 0,
                plain.change(a[0], a[1], a[2], a[3], a[4], a[5]) ? 1 : 0, a);
    }

    private void effect() {
        int first = argument();
        int last = random.nextInt(8) == 0 ? argument() : first + random.nextInt(5);
        int takes = random.nextInt(3) == 0 ? 0 : 1 << random.nextInt(4);
        int gives = 1 << random.nextInt(4) | (random.nextInt(4) == 0 ? 1 << random.nextInt(8) : 0);
        int[] a = {door(), first, last, random.nextInt(50) == 0 ? upTo(300) : takes, gives};
        due("effect", lister.effect(a[0], a[1], a[2], a[3], a[4]), plain.effect(a[0], a[1], a[2], a[3], a[4]), a);
    }

    private void run(int p) {
        int[] a = new int[5];
        for (int i = 0; i < 5; i++) {
            a[i] = narrow ? random.nextInt() & 0x07030107 : random.nextInt();
        }
        due("feed", lister.feed(a[0], a[1], a[2], a[3], a[4]), plain.feed(a[0], a[1], a[2], a[3], a[4]), a);
        if (random.nextInt(3) == 0) {
            return;
        }
        int n = upTo(plain.count(-1, 1));
        due("run", lister.run(p, n), plain.run(p, n), p, n);
        due("ended", lister.ended(), plain.ended());
    }

    private void list(int p) {
        int phase = upTo(1);
        int door = door();
        int set = upTo(15);
        int q = upTo(3);
        switch (random.nextInt(6)) {
            case 0 -> due("needed", lister.needed(p, phase, door), plain.needed(p, phase, door), p, phase, door);
            case 1 -> due("seen", lister.seen(p, phase, door), plain.seen(p, phase, door), p, phase, door);
            case 2 -> due("melted", lister.melted(set, phase, door), plain.melted(set, phase, door), set, phase, door);
            case 3 -> due("fresh", lister.fresh(p, q, phase, door), plain.fresh(p, q, phase, door), p, q, phase, door);
            default -> {
                int spans = plain.spans(p, phase);
                due("spans", lister.spans(p, phase), spans, p, phase);
                int i = upTo(Math.max(0, spans));
                for (int what = -1; what < 4; what++) {
                    due("span", lister.span(p, phase, i, what), plain.span(p, phase, i, what), p, phase, i, what);
                }
            }
        }
    }

    private void way(int p) {
        int phase = upTo(1);
        int door = door();
        int argument = argument();
        int spans = plain.spans(p, phase);
        if (spans > 0) {
            int i = random.nextInt(spans);
            door = plain.span(p, phase, i, 0);
            argument = plain.span(p, phase, i, 1 + random.nextInt(2));
        }
        int steps = plain.steps(p, phase, door, argument);
        due("steps", lister.steps(p, phase, door, argument), steps, p, phase, door, argument);
        for (int i = Math.max(-1, steps - 30); i <= steps; i++) {
            due("way", lister.way(p, phase, door, argument, i), plain.way(p, phase, door, argument, i),
                    p, phase, door, argument, i);
        }
    }

    private void house() {
        int set = upTo(15);
        int power = random.nextInt(3) == 0 ? upTo(7) : upTo(3);
        boolean seen = random.nextBoolean();
        switch (random.nextInt(3)) {
            case 0 -> due("reach", lister.reach(set, seen), plain.reach(set, seen), set, seen ? 1 : 0);
            case 1 -> due("shut", lister.shut(set, power), plain.shut(set, power), set, power);
            default -> due("cuts", lister.cuts(set, power), plain.cuts(set, power), set, power);
        }
    }

    private void look(int p) {
        int what = upTo(4);
        int i = upTo(23);
        int of = random.nextInt(4) == 0 ? -1 : p;
        due("look", lister.look(p, i, what), plain.look(p, i, what), p, i, what);
        due("count", lister.count(of, what), plain.count(of, what), of, what);
    }
}
