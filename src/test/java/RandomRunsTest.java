import java.util.ArrayList;
import java.util.Arrays;
import java.util.List;
import java.util.Random;

/** Runs of calls by chance (always the same ones), on NestedClips and on PlainClips: all answers are alike. */
public final class RandomRunsTest {
    private static final int RUNS = Integer.getInteger("runs", 150);
    private static final int CALLS = 300;
    /** How many calls ahead of a wrong answer are told. */
    private static final int SHOWN = 60;
    private static final String[] ASKED = {"many", "clip", "within", "begin", "pressed", "state", "local", "pass",
        "playing", "known", "strength", "share", "dark", "top", "seen", "brightest", "hidden", "pieces", "piece",
        "reach", "spans", "span", "ticks", "both", "when", "frames", "next", "most", "gaps", "fit", "slack",
        "seek", "play", "event", "fault"};
    private static final String[] ACTS = {"add", "add", "lose", "move", "mark", "mark", "mark", "mark", "start",
        "start", "start", "press", "press", "unpress", "undo"};
    private static final int[] MOST_MARK = {14, 4, 4, 9, 1, 1, 3, 6, 6};

    private final Random random;
    private final NestedClips x = new NestedClips();
    private final PlainClips plain = new PlainClips();
    private final List<String> calls = new ArrayList<>();

    private RandomRunsTest(long seed) {
        random = new Random(seed);
    }

    public static void main(String[] args) {
        int wrong = 0;
        for (int run = 0; run < RUNS && wrong < 3; run++) {
            if (!new RandomRunsTest(Integer.getInteger("seed", 0) + run).go()) {
                System.out.println("run " + run + " went wrong");
                wrong++;
            }
        }
        System.out.println(wrong == 0 ? "all runs are alike" : wrong + " runs differ");
        System.exit(wrong == 0 ? 0 : 1);
    }

    private boolean go() {
        boolean alike = true;
        boolean byText = random.nextInt(4) > 0;
        for (int i = 0; i < CALLS && alike; i++) {
            int chance = random.nextInt(100);
            if (byText && (i == 0 || chance < 3)) {
                alike = loadText() && pressSome() && sweep();
            } else if (chance < (byText ? 12 : i < 40 ? 75 : 20)) {
                alike = one(ACTS[random.nextInt(ACTS.length)]);
            } else {
                alike = one(ASKED[random.nextInt(ASKED.length)]);
            }
        }
        return alike;
    }

    private boolean one(String name) {
        return same(name, arguments(name));
    }

    private boolean same(String name, int[] a) {
        int got = Calls.call(x, name, a);
        int due = plain.call(name, a);
        calls.add(name + Arrays.toString(a) + " -> " + due + " (" + plain.status + ")");
        if (got != due || x.status() != plain.status) {
            System.out.println("answered " + got + " (" + x.status() + ") where " + due + " (" + plain.status
                    + ") is due:");
            for (int i = Math.max(0, calls.size() - SHOWN); i < calls.size(); i++) {
                System.out.println("  " + calls.get(i));
            }
            return false;
        }
        return true;
    }

    private boolean loadText() {
        String text = new Texts(random).show();
        boolean alike = true;
        for (int from = 0; from < text.length() && alike; from += 20) {
            alike = same("feed", Calls.fed(text, from));
        }
        calls.add("text: " + text);
        return alike && same("load", new int[] {text.length()}) && same("fault", new int[] {0})
                && same("fault", new int[] {1});
    }

    private boolean pressSome() {
        boolean alike = true;
        for (int i = random.nextInt(5); i > 0 && alike; i--) {
            alike = same("press", new int[] {random.nextInt(2), random.nextInt(plain.length() + 2)});
        }
        return alike;
    }

    /** Every CLIP at every TIME, a little beyond the end of the SHOW. */
    private boolean sweep() {
        String[] names = {"state", "local", "pass", "known", "strength", "share"};
        int last = Math.min(1999, Math.min(400, plain.length() + 5));
        boolean alike = true;
        for (int clip = 0; clip < plain.size() && alike; clip++) {
            for (int time = 0; time <= last && alike; time++) {
                String name = names[(clip + time) % 2 == 0 ? 0 : random.nextInt(names.length)];
                alike = same(name, new int[] {clip, time});
            }
        }
        return alike;
    }

    private int clip() {
        return random.nextInt(25) == 0 ? random.nextInt(16) - 2 : random.nextInt(Math.max(1, plain.size()));
    }

    private int below(int bound) {
        return random.nextInt(40) == 0 ? -1 : random.nextInt(bound);
    }

    private int time() {
        int kind = random.nextInt(20);
        if (kind == 0) {
            return random.nextInt(2010) - 5;
        }
        return random.nextInt(Math.min(1999, plain.length() + 8) + 1);
    }

    private int much() {
        int kind = random.nextInt(12);
        return kind == 0 ? random.nextInt(1002) - 1 : kind < 3 ? random.nextInt(60) : random.nextInt(9);
    }

    private int markNumber(int what) {
        if (what < 0 || what > 8 || random.nextInt(20) == 0) {
            return much();
        }
        return (what == 1 || what == 2 ? 1 : 0) + random.nextInt(MOST_MARK[what] + 1);
    }

    private int[] arguments(String name) {
        switch (name) {
            case "add": return new int[] {below(3), plain.size() == 0 && random.nextInt(5) > 0 ? -1 : clip()};
            case "move": case "within": return new int[] {clip(), below(5)};
            case "mark": {
                int what = below(9);
                return new int[] {clip(), what, markNumber(what)};
            }
            case "start": {
                int how = below(4);
                return new int[] {clip(), how, clip(), how == 3 ? below(5) / 2 : much()};
            }
            case "press": return new int[] {random.nextInt(3) > 0 ? random.nextInt(2) : below(5), time()};
            case "unpress": return new int[] {below(5)};
            case "many": return new int[] {below(11)};
            case "clip": return new int[] {clip(), below(20)};
            case "pressed": return new int[] {below(5), below(2)};
            case "state": case "local": case "pass": case "known": case "strength": case "share":
                return new int[] {clip(), time()};
            case "playing": return new int[] {time(), random.nextInt(2)};
            case "dark": case "top": case "next": case "seek": return new int[] {time()};
            case "piece": return new int[] {clip(), below(6), below(5)};
            case "span": return new int[] {clip(), below(4), below(4)};
            case "reach": return new int[] {clip(), below(6), below(16)};
            case "when": return new int[] {clip(), below(16), below(4)};
            case "both": return new int[] {clip(), clip()};
            case "most": case "fault": return new int[] {below(3)};
            case "fit": return new int[] {clip(), below(4), time()};
            case "play": return new int[] {random.nextInt(4) == 0 ? random.nextInt(220) - 5 : below(12) + 1};
            case "event": return new int[] {random.nextInt(4) == 0 ? below(70) : below(6), below(5)};
            default: return new int[] {clip()};
        }
    }
}
