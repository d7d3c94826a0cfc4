import java.util.ArrayList;
import java.util.List;
import java.util.function.Supplier;
import java.util.function.ToIntFunction;

/** Answers that are due: counts them, and tells each other one with the sentence of the document that it breaks. */
final class Due {
    static final int NONE = NestedClips.NONE;
    static final int LEAF = 0;
    static final int PAR = 1;
    static final int SEQ = 2;
    static final int DUR = 0;
    static final int RATE = 1;
    static final int TIMES = 2;
    static final int CUT = 3;
    static final int BACK = 4;
    static final int HOLD = 5;
    static final int LAYER = 6;
    static final int IN = 7;
    static final int OUT = 8;
    static final int AT = 0;
    static final int WITH = 1;
    static final int BEHIND = 2;
    static final int PRESS = 3;
    static final int LEAST = Integer.MIN_VALUE;
    static final int GREATEST = Integer.MAX_VALUE;
    /** With a status() behind each question, and the calls that made the object, it stays below 512. */
    private static final int ASKED_AT_ONCE = 180;

    private static int wrong;
    private static int checks;
    private static String sentence = "";

    private Due() { }

    /** The sentence of the document that the next answers are about. */
    static void of(String words) {
        sentence = words;
    }

    static void is(int got, int want) {
        checks++;
        if (got != want) {
            wrong++;
            StackTraceElement caller = StackWalker.getInstance().walk(frames -> frames
                    .filter(f -> !f.getClassName().equals("Due"))
                    .findFirst().orElseThrow().toStackTraceElement());
            System.out.println(sentence + ", " + caller + ": answered " + got + ", due is " + want);
        }
    }

    /** These answers are due, one by one. */
    static void are(int[] got, int... want) {
        is(got.length, want.length);
        for (int i = 0; i < Math.min(got.length, want.length); i++) {
            is(got[i], want[i]);
        }
    }

    /** The call gave NONE, with this STATUS. */
    static void no(NestedClips x, int got, int why) {
        is(got, NONE);
        is(x.status(), why);
    }

    /** The call gave this, with STATUS 0: it tells a NONE that is an answer from one that is none. */
    static void yes(NestedClips x, int got, int want) {
        is(got, want);
        is(x.status(), 0);
    }

    static NestedClips told(String text) {
        NestedClips x = new NestedClips();
        Calls.load(x, text);
        is(x.fault(0), 0);
        return x;
    }

    static void faulty(String text, int kind, int place) {
        NestedClips x = new NestedClips();
        no(x, Calls.load(x, text), 9);
        is(x.fault(0), kind);
        is(x.fault(1), place);
        is(x.many(0), 0);
        is(x.many(3), 0);
        is(x.many(9), 0);
    }

    /**
     * A call on an object that is made so gives NONE with this STATUS and changes nothing else: a row of
     * questions about all that an object holds is answered as on another object, made alike, without the call.
     */
    static void refused(Supplier<NestedClips> made, int why, ToIntFunction<NestedClips> call) {
        NestedClips x = made.get();
        no(x, call.applyAsInt(x), why);
        List<ToIntFunction<NestedClips>> questions = questions(x.many(0));
        for (int from = 0; from < questions.size(); from += ASKED_AT_ONCE) {
            NestedClips with = made.get();
            call.applyAsInt(with);
            NestedClips without = made.get();
            for (int i = from; i < Math.min(questions.size(), from + ASKED_AT_ONCE); i++) {
                is(questions.get(i).applyAsInt(with), questions.get(i).applyAsInt(without));
                is(with.status(), without.status());
            }
        }
    }

    /** Questions first, as they change nothing; then those that take back ACTS, and the tape at last. */
    private static List<ToIntFunction<NestedClips>> questions(int clips) {
        List<ToIntFunction<NestedClips>> asked = new ArrayList<>();
        for (int what = 0; what <= 9; what++) {
            int which = what;
            asked.add(x -> x.many(which));
            asked.add(x -> x.fault(which % 2));
        }
        for (int i = 0; i < 6; i++) {
            int which = i;
            asked.add(x -> x.pressed(which, 0));
            asked.add(x -> x.pressed(which, 1));
        }
        for (int i = 0; i < 64; i += i < 8 ? 1 : 11) {
            for (int what = 0; what < 4; what++) {
                int which = i;
                int asks = what;
                asked.add(x -> x.event(which, asks));
            }
        }
        for (int clip = 0; clip < clips; clip++) {
            int which = clip;
            for (int what = 0; what <= 18; what++) {
                int asks = what;
                asked.add(x -> x.clip(which, asks));
            }
            for (int i = 0; i < 4; i++) {
                int place = i;
                asked.add(x -> x.within(which, place));
            }
            asked.add(x -> x.begin(which));
        }
        for (int time = 0; time < 2000; time = time * 2 + 1) {
            int at = time;
            asked.add(x -> x.playing(at, false));
            asked.add(x -> x.playing(at, true));
        }
        for (int i = 0; i < 9; i++) {
            asked.add(NestedClips::undo);
            asked.add(x -> x.many(0) * 10 + x.many(2));
            asked.add(x -> x.many(4));
        }
        asked.add(x -> x.load(x.many(9)));
        asked.add(x -> x.fault(1));
        return asked;
    }

    static void end() {
        System.out.println(wrong == 0 ? checks + " answers are as due" : wrong + " answers are not as due");
        System.exit(wrong == 0 ? 0 : 1);
    }
}
