import java.util.ArrayList;
import java.util.Arrays;
import java.util.HashMap;
import java.util.HashSet;
import java.util.List;
import java.util.Map;
import java.util.Set;
import java.util.TreeSet;

/** The document word by word, one state and one call at a time, without a thought for speed. */
final class PlainLister {
    private static final class Effect {
        final Set<Integer> calls = new HashSet<>();
        final int takes;
        final int gives;

        Effect(int door, int first, int last, int takes, int gives) {
            for (int argument = first; argument <= last; argument++) {
                calls.add(door * 32 + argument);
            }
            this.takes = takes;
            this.gives = gives;
        }
    }

    /** What the code of a program comes to: the ways by calls, and the instructions. */
    private static final class Found {
        final List<Map<Integer, String>> ways = List.of(new HashMap<>(), new HashMap<>());
        final Set<Integer> instructions = new HashSet<>();
    }

    private final List<List<int[]>> codes = new ArrayList<>();
    private final List<List<Set<Integer>>> seen = new ArrayList<>();
    private final Found[] found = new Found[4];
    private final List<Effect> effects = new ArrayList<>();
    private final List<Integer> tape = new ArrayList<>();
    private int ended = -1;

    PlainLister() {
        for (int p = 0; p < 4; p++) {
            codes.add(new ArrayList<>());
            seen.add(List.of(new TreeSet<>(), new TreeSet<>()));
        }
    }

    private static boolean in(int value, int first, int last) {
        return first <= value && value <= last;
    }

    private static boolean good(int p, int kind, int x, int n, int to) {
        return in(p, 0, 3) && in(kind, 0, 9) && in(x, 0, 1) && in(n, 0, 31) && in(to, 0, 24);
    }

    int code(int p, int kind, int x, int n, int to) {
        if (!good(p, kind, x, n, to) || codes.get(p).size() == 24) {
            return -1;
        }
        codes.get(p).add(new int[] {kind, x, n, to});
        found[p] = null;
        return codes.get(p).size() - 1;
    }

    boolean change(int p, int i, int kind, int x, int n, int to) {
        if (!good(p, kind, x, n, to) || !in(i, 0, codes.get(p).size() - 1)) {
            return false;
        }
        codes.get(p).set(i, new int[] {kind, x, n, to});
        found[p] = null;
        return true;
    }

    boolean copy(int p, int q) {
        if (!in(p, 0, 3) || !in(q, 0, 3) || p == q) {
            return false;
        }
        codes.set(p, new ArrayList<>(codes.get(q)));
        found[p] = null;
        return true;
    }

    /** A state is instruction, register 0, register 1, phase. */
    private static List<int[]> after(List<int[]> code, int[] s) {
        int[] row = code.get(s[0]);
        int kind = row[0];
        int x = row[1];
        int n = row[2];
        int here = s[1 + x];
        int other = s[2 - x];
        List<int[]> all = new ArrayList<>();
        int[] next = s.clone();
        next[0]++;
        switch (kind) {
            case 0 -> next[1 + x] = n;
            case 1 -> next[1 + x] = (here + n) % 32;
            case 2 -> next[1 + x] = other;
            case 3 -> {
                for (int value = 0; value < 32; value++) {
                    int[] read = next.clone();
                    read[1 + x] = value;
                    all.add(read);
                }
            }
            case 4 -> next[1 + x] = here & n;
            case 5 -> next[0] = here < n ? row[3] : next[0];
            case 6 -> next[0] = row[3];
            case 8 -> next[3] = 1;
            default -> { }
        }
        if (kind != 3 && kind != 9) {
            all.add(next);
        }
        all.removeIf(t -> t[0] >= code.size());
        return all;
    }

    private static int number(int[] s) {
        return ((s[0] * 32 + s[1]) * 32 + s[2]) * 2 + s[3];
    }

    private static int[] state(int number) {
        return new int[] {number / 2048, number / 64 % 32, number / 2 % 32, number % 2};
    }

    private static Found search(List<int[]> code) {
        Found all = new Found();
        Map<Integer, String> level = new HashMap<>();
        Set<Integer> been = new HashSet<>();
        if (!code.isEmpty()) {
            level.put(0, "\0");
        }
        while (!level.isEmpty()) {
            been.addAll(level.keySet());
            Map<Integer, String> here = new HashMap<>();
            Map<Integer, String> next = new HashMap<>();
            for (Map.Entry<Integer, String> entry : level.entrySet()) {
                int[] s = state(entry.getKey());
                all.instructions.add(s[0]);
                if (code.get(s[0])[0] == 7) {
                    here.merge((s[3] * 32 + s[1]) * 32 + s[2], entry.getValue(), PlainLister::lesser);
                }
                for (int[] t : after(code, s)) {
                    if (!been.contains(number(t))) {
                        next.merge(number(t), entry.getValue() + (char) t[0], PlainLister::lesser);
                    }
                }
            }
            here.forEach((call, row) -> all.ways.get(call / 1024).putIfAbsent(call % 1024, row));
            level = next;
        }
        return all;
    }

    private static String lesser(String a, String b) {
        return a.compareTo(b) <= 0 ? a : b;
    }

    private Found found(int p) {
        if (found[p] == null) {
            found[p] = search(codes.get(p));
        }
        return found[p];
    }

    private Set<Integer> calls(int p, int phase) {
        return found(p).ways.get(phase).keySet();
    }

    private static int bits(Set<Integer> calls, int door) {
        int bits = 0;
        for (int call : calls) {
            if (call / 32 == door) {
                bits |= 1 << call % 32;
            }
        }
        return bits;
    }

    int needed(int p, int phase, int door) {
        return in(p, 0, 3) && in(phase, 0, 1) ? bits(calls(p, phase), door) : 0;
    }

    private List<int[]> allSpans(int p, int phase) {
        List<int[]> spans = new ArrayList<>();
        for (int call : new TreeSet<>(calls(p, phase))) {
            int[] last = spans.isEmpty() ? new int[] {-1, -1, -1} : spans.get(spans.size() - 1);
            if (last[0] == call / 32 && last[2] + 1 == call % 32) {
                last[2]++;
            } else {
                spans.add(new int[] {call / 32, call % 32, call % 32});
            }
        }
        return spans;
    }

    int spans(int p, int phase) {
        return in(p, 0, 3) && in(phase, 0, 1) ? allSpans(p, phase).size() : -1;
    }

    int span(int p, int phase, int i, int what) {
        return in(i, 0, spans(p, phase) - 1) && in(what, 0, 2) ? allSpans(p, phase).get(i)[what] : -1;
    }

    private String row(int p, int phase, int door, int argument) {
        if (!in(p, 0, 3) || !in(phase, 0, 1) || !in(door, 0, 31) || !in(argument, 0, 31)) {
            return null;
        }
        return found(p).ways.get(phase).get(door * 32 + argument);
    }

    int steps(int p, int phase, int door, int argument) {
        String row = row(p, phase, door, argument);
        return row == null ? -1 : row.length();
    }

    int way(int p, int phase, int door, int argument, int i) {
        String row = row(p, phase, door, argument);
        return row == null || !in(i, 0, row.length() - 1) ? -1 : row.charAt(i);
    }

    int feed(int a, int b, int c, int d, int e) {
        if (tape.size() + 20 > 80) {
            return -1;
        }
        for (int word : new int[] {a, b, c, d, e}) {
            for (int at = 3; at >= 0; at--) {
                tape.add((int) (Integer.toUnsignedLong(word) / (1L << at * 8) % 256));
            }
        }
        return tape.size();
    }

    int run(int p, int n) {
        if (!in(p, 0, 3) || !in(n, 0, tape.size())) {
            return -1;
        }
        List<int[]> code = codes.get(p);
        int[] s = {0, 0, 0, 0};
        int calls = 0;
        int bytes = 0;
        int instructions = 0;
        while (true) {
            if (s[0] >= code.size() || code.get(s[0])[0] == 9) {
                ended = 0;
                break;
            }
            if (instructions == 500) {
                ended = 2;
                break;
            }
            int[] row = code.get(s[0]);
            if (row[0] == 3) {
                if (bytes == n) {
                    ended = 1;
                    break;
                }
                s[0]++;
                s[1 + row[1]] = tape.get(bytes++) % 32;
            } else {
                if (row[0] == 7) {
                    calls++;
                    seen.get(p).get(s[3]).add(s[1] * 32 + s[2]);
                }
                List<int[]> next = after(code, s);
                s = next.isEmpty() ? new int[] {24, 0, 0, 0} : next.get(0);
            }
            instructions++;
        }
        tape.clear();
        return calls;
    }

    int ended() {
        return ended;
    }

    int seen(int p, int phase, int door) {
        return in(p, 0, 3) && in(phase, 0, 1) ? bits(seen.get(p).get(phase), door) : 0;
    }

    int melted(int set, int phase, int door) {
        int bits = 0;
        for (int p = 0; p < 4 && in(set, 0, 15); p++) {
            bits |= (set >> p) % 2 == 1 ? needed(p, phase, door) : 0;
        }
        return bits;
    }

    int fresh(int p, int q, int phase, int door) {
        return in(q, 0, 3) ? needed(p, phase, door) & ~needed(q, phase, door) : 0;
    }

    int effect(int door, int first, int last, int takes, int gives) {
        if (!in(door, 0, 31) || !in(first, 0, 31) || !in(last, first, 31) || !in(takes, 0, 255)
                || !in(gives, 0, 255) || effects.size() == 10) {
            return -1;
        }
        effects.add(new Effect(door, first, last, takes, gives));
        return effects.size() - 1;
    }

    private Set<Integer> union(int set, boolean ofSeen) {
        Set<Integer> calls = new HashSet<>();
        for (int p = 0; p < 4; p++) {
            if ((set >> p) % 2 == 1) {
                calls.addAll(ofSeen ? seen.get(p).get(1) : calls(p, 1));
            }
        }
        return calls;
    }

    private int powers(Set<Integer> calls) {
        int powers = 0;
        for (int round = 0; round < 20; round++) {
            for (Effect effect : effects) {
                boolean some = false;
                for (int call : effect.calls) {
                    some |= calls.contains(call);
                }
                if (some && (powers & effect.takes) == effect.takes) {
                    powers |= effect.gives;
                }
            }
        }
        return powers;
    }

    int reach(int set, boolean ofSeen) {
        return in(set, 0, 15) ? powers(union(set, ofSeen)) : -1;
    }

    /** Calls taken out, effects, and their bits, for the best set of effects; null where it can't be. */
    private int[] best(int set, int power) {
        if (!in(set, 0, 15) || !in(power, 0, 7)) {
            return null;
        }
        Set<Integer> list = union(set, false);
        Set<Integer> stays = union(set, true);
        int[] best = null;
        for (int cut = 0; cut < 1 << effects.size(); cut++) {
            Set<Integer> out = new HashSet<>();
            for (int e = 0; e < effects.size(); e++) {
                if ((cut >> e) % 2 == 1) {
                    out.addAll(effects.get(e).calls);
                }
            }
            out.retainAll(list);
            Set<Integer> left = new HashSet<>(list);
            left.removeAll(out);
            boolean allowed = out.stream().noneMatch(stays::contains);
            int[] now = {out.size(), Integer.bitCount(cut), cut};
            if (allowed && (best == null || Arrays.compare(now, best) < 0) && (powers(left) >> power) % 2 == 0) {
                best = now;
            }
        }
        return best;
    }

    int shut(int set, int power) {
        int[] best = best(set, power);
        return best == null ? -1 : best[0];
    }

    int cuts(int set, int power) {
        int[] best = best(set, power);
        return best == null ? -1 : best[2];
    }

    int look(int p, int i, int what) {
        if (!in(p, 0, 3) || !in(i, 0, codes.get(p).size() - 1) || !in(what, 0, 4)) {
            return -1;
        }
        return what < 4 ? codes.get(p).get(i)[what] : found(p).instructions.contains(i) ? 1 : 0;
    }

    int count(int p, int what) {
        if (p == -1) {
            return what == 0 ? effects.size() : what == 1 ? tape.size() : -1;
        }
        if (!in(p, 0, 3) || !in(what, 0, 4)) {
            return -1;
        }
        return what == 0 ? codes.get(p).size() : what < 3 ? calls(p, what - 1).size()
                : seen.get(p).get(what - 3).size();
    }
}
