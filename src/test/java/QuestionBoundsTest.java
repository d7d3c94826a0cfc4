import java.util.function.IntBinaryOperator;
import java.util.function.ToIntFunction;

/**
 * Calls that only look (promises 14 to 44): the numbers that each of them takes up to their bounds and next to them,
 * each STATUS that it names, and the first of those that hold. A refused one changes nothing.
 */
public final class QuestionBoundsTest {
    private static final int NONE = Due.NONE;
    private static final int LEAST = Due.LEAST;
    private static final int GREATEST = Due.GREATEST;
    private static final int CLIPS = 7;
    private static final int[] NO_CLIPS = {LEAST, -2, -1, CLIPS, CLIPS + 1, 12, GREATEST};
    private static final int[] NO_TIMES = {LEAST, -1, 2000, 2001, GREATEST};
    private static final int[] BELOW = {LEAST, -2, -1};

    private QuestionBoundsTest() { }

    public static void main(String[] args) {
        many();
        clip();
        within();
        begin();
        pressed();
        clipsAtTimes();
        timesAlone();
        clipsAlone();
        pieces();
        spans();
        when();
        most();
        fit();
        withoutClips();
        statusOfTheLatest();
        Due.end();
    }

    /** A PAR with LEAVES, of which one is OPEN and one never PLAYS, and a SEQ; PRESSES, EVENTS, a tape. */
    private static NestedClips some() {
        NestedClips x = Due.told("par a at 1 (leaf b dur 4; leaf c dur 3 press 2; leaf d behind c 1;"
                + " seq e dur 5 hold (leaf f dur 2 back; leaf g dur 1 at 9;))");
        x.press(2, 3);
        x.press(1, 3);
        x.seek(1);
        x.play(9);
        x.feed(0x6c656166, 0x20623b00, 0, 0, 0);
        return x;
    }

    private static void refused(int why, ToIntFunction<NestedClips> call) {
        Due.refused(QuestionBoundsTest::some, why, call);
    }

    private static void many() {
        Due.of("Promise 14: (1), what 0 to 9");
        for (int what : new int[] {LEAST, -1, 10, GREATEST}) {
            refused(1, x -> x.many(what));
        }
        NestedClips x = some();
        // CHANGES at 1 (all begin), 3 (c begins, f is OVER), 5 (b is OVER), 6 (all are); of these EVENTS 6 behind 1.
        int[] due = {7, 5, 2, 3, 6, 10, 2, 4, 6, 20};
        for (int what = 0; what <= 9; what++) {
            Due.yes(x, x.many(what), due[what]);
        }
        x = new NestedClips();
        for (int what = 0; what <= 9; what++) {
            Due.yes(x, x.many(what), 0);
        }
    }

    private static void clip() {
        Due.of("Promise 15: (1; 2), what 0 to 18; STATUS tells NONE from -1");
        for (int what : new int[] {LEAST, -1, 19, GREATEST}) {
            refused(1, x -> x.clip(0, what));
            refused(1, x -> x.clip(-1, what));
        }
        for (int clip : NO_CLIPS) {
            refused(2, x -> x.clip(clip, 0));
            refused(2, x -> x.clip(clip, 18));
        }
        NestedClips x = some();
        Due.yes(x, x.clip(0, 0), Due.PAR);
        Due.yes(x, x.clip(6, 18), 0);
        Due.yes(x, x.clip(0, 1), NONE);
        Due.yes(x, x.clip(0, 11), NONE);
        Due.yes(x, x.clip(2, 11), NONE);
        Due.yes(x, x.clip(3, 11), 2);
        Due.yes(x, x.clip(0, 2), 0);
        Due.yes(x, x.clip(1, 3), 0);
    }

    private static void within() {
        Due.of("Promise 16: (1: i below 0; 2; 8)");
        for (int i : BELOW) {
            refused(1, x -> x.within(0, i));
            refused(1, x -> x.within(7, i));
        }
        for (int clip : NO_CLIPS) {
            refused(2, x -> x.within(clip, 0));
            refused(2, x -> x.within(clip, 9));
        }
        for (int i : new int[] {4, 5, GREATEST}) {
            refused(8, x -> x.within(0, i));
        }
        refused(8, x -> x.within(1, 0));
        refused(8, x -> x.within(4, 2));
        NestedClips x = some();
        int[] right = {1, 2, 3, 4};
        for (int i = 0; i < 4; i++) {
            Due.yes(x, x.within(0, i), right[i]);
        }
        Due.yes(x, x.within(4, 1), 6);
    }

    private static void begin() {
        Due.of("Promise 17: (2; 8: it is OPEN)");
        for (int clip : NO_CLIPS) {
            refused(2, x -> x.begin(clip));
        }
        refused(8, x -> x.begin(2));
        refused(8, x -> x.begin(3));
        NestedClips x = some();
        Due.yes(x, x.begin(0), 1);
        Due.yes(x, x.begin(1), 0);
        Due.yes(x, x.begin(6), 11);
    }

    private static void pressed() {
        Due.of("Promise 18: (1; 8), what 0, 1");
        for (int i : BELOW) {
            refused(1, x -> x.pressed(i, 0));
            refused(1, x -> x.pressed(i, 1));
        }
        for (int what : new int[] {LEAST, -1, 2, GREATEST}) {
            refused(1, x -> x.pressed(0, what));
            refused(1, x -> x.pressed(6, what));
        }
        for (int i : new int[] {2, 3, 6, GREATEST}) {
            refused(8, x -> x.pressed(i, 0));
            refused(8, x -> x.pressed(i, 1));
        }
        Due.refused(NestedClips::new, 8, x -> x.pressed(0, 0));
        NestedClips x = some();
        Due.yes(x, x.pressed(0, 0), 2);
        Due.yes(x, x.pressed(1, 1), 3);
    }

    private static IntBinaryOperator atTime(NestedClips x, int which) {
        switch (which) {
            case 0: return x::state;
            case 1: return x::local;
            case 2: return x::pass;
            case 3: return x::known;
            case 4: return x::strength;
            default: return x::share;
        }
    }

    private static void clipsAtTimes() {
        Due.of("Promises 19, 20, 21, 23, 24, 25: (1: TIME; 2), a TIME (0 to 1,999)");
        for (int which = 0; which < 6; which++) {
            int one = which;
            for (int time : NO_TIMES) {
                refused(1, x -> atTime(x, one).applyAsInt(1, time));
                // Ahead of: no such CLIP, it neither PLAYS nor is FROZEN, it is no LEAF.
                refused(1, x -> atTime(x, one).applyAsInt(-1, time));
                refused(1, x -> atTime(x, one).applyAsInt(7, time));
                refused(1, x -> atTime(x, one).applyAsInt(0, time));
            }
            for (int clip : NO_CLIPS) {
                refused(2, x -> atTime(x, one).applyAsInt(clip, 0));
                refused(2, x -> atTime(x, one).applyAsInt(clip, 1999));
            }
        }
        NestedClips x = some();
        Due.yes(x, x.state(0, 0), 1);
        Due.yes(x, x.state(6, 1999), 0);
        Due.yes(x, x.strength(0, 0), 0);
        Due.yes(x, x.strength(6, 1999), 0);
        Due.yes(x, x.share(1, 0), 0);
        Due.yes(x, x.share(6, 1999), 0);
        Due.yes(x, x.known(0, 0), 1);
        Due.yes(x, x.known(0, 1999), 1);
        Due.of("Promises 20, 21: (8: it neither PLAYS nor is FROZEN)");
        for (int which = 1; which <= 2; which++) {
            int one = which;
            refused(8, y -> atTime(y, one).applyAsInt(0, 0));
            refused(8, y -> atTime(y, one).applyAsInt(0, 6));
            refused(8, y -> atTime(y, one).applyAsInt(1, 0));
            refused(8, y -> atTime(y, one).applyAsInt(1, 5));
            refused(8, y -> atTime(y, one).applyAsInt(2, 2));
            Due.yes(x, atTime(x, which).applyAsInt(0, 1), 0);
            Due.yes(x, atTime(x, which).applyAsInt(2, 3), 0);
        }
        Due.of("Promise 23: (8: AWAY, not known)");
        refused(8, y -> y.known(1, 0));
        refused(8, y -> y.known(2, 2));
        refused(8, y -> y.known(3, 2));
        refused(8, y -> y.known(2, 6));
        Due.yes(x, x.known(2, 3), 2);
        Due.yes(x, x.known(3, 3), 6);
        Due.yes(x, x.known(1, 1), 0);
        Due.yes(x, x.known(6, 1), 11);
        Due.of("Promise 25: (5: it is no LEAF)");
        refused(5, y -> y.share(0, 0));
        refused(5, y -> y.share(4, 1999));
    }

    private static void timesAlone() {
        Due.of("Promises 22, 26, 27, 40, 45: (1), a TIME (0 to 1,999)");
        for (int time : NO_TIMES) {
            refused(1, x -> x.playing(time, false));
            refused(1, x -> x.playing(time, true));
            refused(1, x -> x.dark(time));
            refused(1, x -> x.top(time));
            refused(1, x -> x.next(time));
            refused(1, x -> x.seek(time));
        }
        NestedClips x = some();
        for (int time = 0; time <= 1999; time += 1999) {
            Due.yes(x, x.playing(time, false), 0);
            Due.yes(x, x.playing(time, true), 0);
            Due.yes(x, x.dark(time), 100);
            Due.yes(x, x.seek(time), 0);
        }
        Due.of("Promise 27: (8)");
        refused(8, y -> y.top(0));
        refused(8, y -> y.top(6));
        refused(8, y -> y.top(1999));
        Due.yes(x, x.top(1), 5);
        Due.of("Promise 40: (8)");
        refused(8, y -> y.next(1999));
        refused(8, y -> y.next(6));
        Due.yes(x, x.next(5), 6);
        Due.yes(x, x.next(0), 1);
    }

    private static ToIntFunction<NestedClips> ofClip(int which, int clip) {
        switch (which) {
            case 0: return x -> x.pieces(clip);
            case 1: return x -> x.spans(clip);
            case 2: return x -> x.ticks(clip);
            case 3: return x -> x.frames(clip);
            case 4: return x -> x.both(clip, 0);
            case 5: return x -> x.both(0, clip);
            case 6: return x -> x.both(clip, clip);
            case 7: return x -> x.slack(clip);
            case 8: return x -> x.seen(clip);
            default: return x -> x.brightest(clip);
        }
    }

    private static void clipsAlone() {
        Due.of("Promises 28, 29, 31, 34, 36, 37, 39, 44: (2)");
        for (int which = 0; which <= 9; which++) {
            for (int clip : NO_CLIPS) {
                refused(2, ofClip(which, clip));
            }
            NestedClips x = some();
            for (int clip = 0; clip < CLIPS; clip++) {
                ofClip(which, clip).applyAsInt(x);
                Due.is(x.status() == 2 ? 1 : 0, 0);
            }
        }
        Due.of("Promises 28, 29: (5: it is none)");
        for (int which = 8; which <= 9; which++) {
            refused(5, ofClip(which, 0));
            refused(5, ofClip(which, 4));
        }
        Due.of("Promise 29: (8: it never is above 0)");
        refused(8, x -> x.brightest(6));
        refused(8, x -> x.brightest(3));
        Due.of("Promise 44: (5: it does not start AT)");
        refused(5, x -> x.slack(2));
        refused(5, x -> x.slack(3));
    }

    private static void pieces() {
        Due.of("Promise 32: (1; 2; 8), what 0 to 3");
        for (int i : BELOW) {
            refused(1, x -> x.piece(1, i, 0));
            refused(1, x -> x.piece(-1, i, 0));
            refused(1, x -> x.reach(1, i, 0));
            refused(1, x -> x.reach(7, i, 0));
        }
        for (int what : new int[] {LEAST, -1, 4, GREATEST}) {
            refused(1, x -> x.piece(1, 0, what));
            refused(1, x -> x.piece(7, 0, what));
            refused(1, x -> x.piece(1, 9, what));
        }
        for (int clip : NO_CLIPS) {
            refused(2, x -> x.piece(clip, 0, 0));
            refused(2, x -> x.piece(clip, 99, 3));
            refused(2, x -> x.reach(clip, 0, 0));
            refused(2, x -> x.reach(clip, 99, 99));
        }
        for (int i : new int[] {1, 2, 2000, GREATEST}) {
            refused(8, x -> x.piece(1, i, 0));
            refused(8, x -> x.piece(1, i, 3));
            refused(8, x -> x.reach(1, i, 0));
        }
        refused(8, x -> x.piece(6, 0, 0));
        refused(8, x -> x.reach(6, 0, 0));
        Due.of("Promise 33: (1: i, local below 0; 8: it does not come to that in it)");
        for (int local : BELOW) {
            refused(1, x -> x.reach(1, 0, local));
            refused(1, x -> x.reach(7, 0, local));
            refused(1, x -> x.reach(1, 9, local));
        }
        refused(8, x -> x.reach(1, 0, 4));
        refused(8, x -> x.reach(1, 0, GREATEST));
        NestedClips x = some();
        Due.yes(x, x.reach(1, 0, 3), 4);
        Due.yes(x, x.reach(1, 0, 0), 1);
        Due.yes(x, x.reach(5, 0, GREATEST), 1);
        Due.yes(x, x.piece(5, 0, 2), -1);
    }

    private static void spans() {
        Due.of("Promise 35: (1; 2; 8), what 0 to 2");
        for (int i : BELOW) {
            refused(1, x -> x.span(1, i, 0));
            refused(1, x -> x.span(-1, i, 0));
        }
        for (int what : new int[] {LEAST, -1, 3, GREATEST}) {
            refused(1, x -> x.span(1, 0, what));
            refused(1, x -> x.span(7, 0, what));
            refused(1, x -> x.span(1, 9, what));
        }
        for (int clip : NO_CLIPS) {
            refused(2, x -> x.span(clip, 0, 0));
            refused(2, x -> x.span(clip, 99, 2));
        }
        for (int i : new int[] {1, 2, 2000, GREATEST}) {
            refused(8, x -> x.span(1, i, 0));
            refused(8, x -> x.span(1, i, 2));
        }
        refused(8, x -> x.span(6, 0, 0));
        NestedClips x = some();
        Due.yes(x, x.span(1, 0, 0), 1);
        Due.yes(x, x.span(1, 0, 1), 4);
        Due.yes(x, x.span(1, 0, 2), 4);
    }

    private static void when() {
        Due.of("Promise 38: (1: below 0; 2; 8)");
        for (int below : BELOW) {
            refused(1, x -> x.when(1, below, 0));
            refused(1, x -> x.when(1, 0, below));
            refused(1, x -> x.when(-1, below, 0));
            refused(1, x -> x.when(7, 0, below));
        }
        for (int clip : NO_CLIPS) {
            refused(2, x -> x.when(clip, 0, 0));
            refused(2, x -> x.when(clip, GREATEST, GREATEST));
        }
        refused(8, x -> x.when(1, 0, 1));
        refused(8, x -> x.when(1, 4, 0));
        refused(8, x -> x.when(1, GREATEST, 0));
        refused(8, x -> x.when(1, 0, GREATEST));
        refused(8, x -> x.when(6, 0, 0));
        NestedClips x = some();
        Due.yes(x, x.when(1, 0, 0), 1);
        Due.yes(x, x.when(1, 3, 0), 4);
    }

    private static void most() {
        Due.of("Promise 41: (1), what 0, 1");
        for (int what : new int[] {LEAST, -1, 2, GREATEST}) {
            refused(1, x -> x.most(what));
        }
        NestedClips x = some();
        Due.yes(x, x.most(0), 2);
        Due.yes(x, x.most(1), 1);
        Due.yes(x, x.gaps(), 1);
        // f and c stand over b at all TIMES.
        Due.yes(x, x.hidden(), 1 << 1);
    }

    private static void fit() {
        Due.of("Promise 43: (1: what, lasts below 0, above 1,999; 2; 8: with none)");
        for (int what : new int[] {LEAST, -1, 3, GREATEST}) {
            refused(1, x -> x.fit(1, what, 6));
            refused(1, x -> x.fit(7, what, 6));
        }
        for (int lasts : NO_TIMES) {
            for (int what = 0; what <= 2; what++) {
                int one = what;
                refused(1, x -> x.fit(1, one, lasts));
                refused(1, x -> x.fit(-1, one, lasts));
            }
        }
        for (int clip : NO_CLIPS) {
            refused(2, x -> x.fit(clip, 0, 0));
            refused(2, x -> x.fit(clip, 2, 1999));
        }
        refused(8, x -> x.fit(1, 0, 0));
        refused(8, x -> x.fit(1, 1, 1999));
        refused(8, x -> x.fit(1, 2, 1999));
        NestedClips x = some();
        Due.yes(x, x.fit(1, 0, 6), 1);
        Due.yes(x, x.fit(1, 1, 6), 1);
        Due.yes(x, x.fit(1, 2, 6), 1);
    }

    /** None of all that there can be: no CLIPS at all. */
    private static void withoutClips() {
        Due.of("none: no CLIPS");
        for (int which = 0; which <= 9; which++) {
            Due.refused(NestedClips::new, 2, ofClip(which, 0));
        }
        for (int which = 0; which < 6; which++) {
            int one = which;
            Due.refused(NestedClips::new, 2, x -> atTime(x, one).applyAsInt(0, 0));
            Due.refused(NestedClips::new, 1, x -> atTime(x, one).applyAsInt(0, 2000));
        }
        NestedClips x = new NestedClips();
        Due.yes(x, x.playing(0, false), 0);
        Due.yes(x, x.playing(1999, true), 0);
        Due.yes(x, x.dark(0), 100);
        Due.no(x, x.top(0), 8);
        Due.yes(x, x.hidden(), 0);
        Due.no(x, x.next(0), 8);
        Due.yes(x, x.most(0), 0);
        Due.yes(x, x.most(1), 0);
        Due.yes(x, x.gaps(), 0);
        Due.yes(x, x.seek(1999), 0);
        Due.yes(x, x.seek(0), 0);
        Due.yes(x, x.play(200), 0);
        Due.yes(x, x.many(4), 0);
    }

    private static void statusOfTheLatest() {
        Due.of("Promise 1: STATUS 0");
        Due.is(new NestedClips().status(), 0);
        Due.of("Promise 2: STATUS of the latest call that has one; status(), feed(), fault() have none");
        for (String name : Calls.NAMES) {
            NestedClips x = some();
            int[] a = {0, 0, 0, 0, 0};
            if (name.equals("many") || name.equals("playing") || name.equals("seek") || name.equals("most")
                    || name.equals("hidden") || name.equals("gaps") || name.equals("ticks") || name.equals("clip")) {
                Due.no(x, x.state(0, 2000), 1);
                Calls.call(x, name, a);
                Due.is(x.status(), 0);
            }
            if (name.equals("feed") || name.equals("fault")) {
                Due.no(x, x.state(0, 2000), 1);
                Calls.call(x, name, a);
                Due.is(x.status(), 1);
                Due.is(x.status(), 1);
                x.many(0);
                Due.is(x.status(), 0);
            }
        }
    }
}
