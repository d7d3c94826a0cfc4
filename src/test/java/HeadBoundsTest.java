/** The HEAD and its EVENTS (promises 45 to 47): the first and the last TIME, 1 and 200 TIMES, none and 64 EVENTS. */
public final class HeadBoundsTest {
    private static final int NONE = Due.NONE;
    private static final int LEAST = Due.LEAST;
    private static final int GREATEST = Due.GREATEST;

    private HeadBoundsTest() { }

    public static void main(String[] args) {
        headAtFirst();
        seekTimes();
        seekLeavesEvents();
        playFewAndMany();
        playBeyondTheEnd();
        refusedPlay();
        eventsOfEachKind();
        eventsAtEachTimeByClips();
        eventsOfFrozenAndHeld();
        eventsUpTo64();
        eventNumbers();
        eventsOfTheLatestPlay();
        eventsStayAsTheyWere();
        Due.end();
    }

    private static NestedClips some() {
        NestedClips x = Due.told("par a at 1 (leaf b dur 2 times 2; leaf c dur 2 back press 0; leaf d dur 3;)");
        x.press(0, 2);
        x.seek(0);
        x.play(6);
        x.feed(0x6c656166, 0x20623b00, 0, 0, 0);
        return x;
    }

    private static void event(NestedClips x, int i, int... due) {
        for (int what = 0; what < 4; what++) {
            Due.yes(x, x.event(i, what), due[what]);
        }
    }

    private static void headAtFirst() {
        Due.of("The HEAD stands at a TIME (0 at first)");
        NestedClips x = new NestedClips();
        Due.yes(x, x.many(5), 0);
        Due.yes(x, x.many(8), 0);
        Due.no(x, x.event(0, 0), 8);
        x.add(Due.LEAF, NONE);
        Due.yes(x, x.many(5), 0);
        // At the TIME at which it stands nothing begins any more.
        Due.yes(x, x.play(1), 0);
        Due.yes(x, x.many(5), 1);
    }

    private static void seekTimes() {
        Due.of("Promise 45: the HEAD stands at a TIME: the CLIPS that PLAY there, as bits (1)");
        NestedClips x = Due.told("par a dur 9 hold (leaf b dur 9; leaf c at 8 dur 9; leaf d hold dur 2;)");
        Due.yes(x, x.seek(0), 1 | 2 | 8);
        Due.yes(x, x.many(5), 0);
        Due.yes(x, x.seek(8), 1 | 2 | 4);
        Due.yes(x, x.many(5), 8);
        Due.yes(x, x.seek(1999), 2 | 4);
        Due.yes(x, x.many(5), 1999);
        for (int time : new int[] {LEAST, -1, 2000, GREATEST}) {
            Due.no(x, x.seek(time), 1);
            Due.yes(x, x.many(5), 1999);
        }
        Due.yes(x, x.seek(1999), 2 | 4);
        Due.yes(x, x.seek(0), 1 | 2 | 8);
    }

    private static void seekLeavesEvents() {
        Due.of("EVENTS of the latest PLAY: a seek() is none");
        NestedClips x = some();
        int events = x.many(8);
        x.seek(1999);
        Due.is(x.many(8), events);
        event(x, 0, 0, 1, 0, 0);
    }

    private static void playFewAndMany() {
        Due.of("Promise 46: the HEAD PLAYS n TIMES (1 to 200): how many EVENTS there were (1: n)");
        for (int n : new int[] {1, 2, 199, 200}) {
            NestedClips x = Due.told("leaf a at 1 dur 200;");
            Due.yes(x, x.play(n), 1);
            Due.is(x.many(5), n);
            event(x, 0, 0, 1, 0, 0);
        }
        for (int n : new int[] {LEAST, -1, 0, 201, 202, 2000, GREATEST}) {
            Due.refused(HeadBoundsTest::some, 1, x -> x.play(n));
        }
        // Each of 200 TIMES: a CLIP begins at the first of them, and is no more at the last.
        NestedClips x = Due.told("leaf a at 1 dur 199;");
        Due.yes(x, x.play(200), 2);
        event(x, 1, 1, 200, 0, NONE);
        x = Due.told("leaf a at 1 dur 200;");
        Due.yes(x, x.play(200), 1);
        Due.yes(x, x.play(1), 1);
        event(x, 0, 1, 201, 0, NONE);
    }

    private static NestedClips at(int time) {
        NestedClips x = some();
        x.seek(time);
        return x;
    }

    private static void playBeyondTheEnd() {
        Due.of("Promise 46: (1: .. beyond 1,999)");
        for (int n : new int[] {1, 2, 100, 200}) {
            NestedClips x = at(1999 - n);
            Due.yes(x, x.play(n), 0);
            Due.is(x.many(5), 1999);
            Due.no(x, x.play(1), 1);
            Due.refused(() -> at(2000 - n), 1, y -> y.play(n));
        }
        Due.refused(() -> at(1999), 1, y -> y.play(1));
        NestedClips x = Due.told("leaf a at 999 dur 500 times 2;");
        x.seek(1998);
        Due.yes(x, x.play(1), 1);
        event(x, 0, 1, 1999, 0, NONE);
    }

    private static void refusedPlay() {
        Due.of("With another STATUS than 0 a call .. changes nothing else: the HEAD and the EVENTS");
        NestedClips x = some();
        int events = x.many(8);
        Due.no(x, x.play(0), 1);
        Due.no(x, x.play(201), 1);
        Due.is(x.many(8), events);
        Due.is(x.many(5), 6);
        event(x, 0, 0, 1, 0, 0);
    }

    private static void eventsOfEachKind() {
        Due.of("EVENTS: 0 a CLIP PLAYS that did not at the TIME ahead, 1 it PLAYS no more, 2 it PLAYS at both, in another PASS");
        NestedClips x = Due.told("leaf a at 2 dur 3 times 3 back;");
        Due.yes(x, x.play(20), 4);
        event(x, 0, 0, 2, 0, 2);
        event(x, 1, 2, 5, 0, 2);
        event(x, 2, 2, 8, 0, 2);
        event(x, 3, 1, 11, 0, NONE);
        // A PASS that is gone over counts once; RATE 4 of 2: each TIME two PASSES more.
        x = Due.told("leaf a dur 2 rate 4 times 9;");
        Due.yes(x, x.play(5), 5);
        event(x, 0, 2, 1, 0, 0);
        event(x, 3, 2, 4, 0, 0);
        event(x, 4, 1, 5, 0, NONE);
        // Within another PASS of what is around it, a CLIP that PLAYS in its own PASS 0 at both has none.
        x = Due.told("par a dur 1 times 3 (leaf b dur 1;)");
        Due.yes(x, x.play(3), 4);
        event(x, 0, 2, 1, 0, 0);
        event(x, 1, 2, 2, 0, 0);
        event(x, 2, 1, 3, 0, NONE);
        event(x, 3, 1, 3, 1, NONE);
        // From PASS 1 to PASS 0, as what is around it begins anew.
        x = Due.told("par a dur 4 times 2 (leaf b dur 2 times 2;)");
        x.seek(3);
        Due.yes(x, x.play(1), 2);
        event(x, 0, 2, 4, 0, 0);
        event(x, 1, 2, 4, 1, 0);
    }

    private static void eventsAtEachTimeByClips() {
        Due.of("EVENTS, at each TIME by CLIPS");
        NestedClips x = Due.told("par a at 1(leaf b dur 1;leaf c at 1;leaf d dur 1;leaf e;leaf f dur 1 times 2;)");
        x.move(5, 0);
        x.mark(2, Due.LAYER, 9);
        Due.yes(x, x.play(2), 9);
        int[] kinds = {0, 0, 0, 0, 0, 1, 0, 1, 2};
        int[] clips = {0, 1, 3, 4, 5, 1, 2, 3, 5};
        for (int i = 0; i < 9; i++) {
            event(x, i, kinds[i], i < 5 ? 1 : 2, clips[i], kinds[i] == 1 ? NONE : 0);
        }
    }

    private static void eventsOfFrozenAndHeld() {
        Due.of("EVENTS: 1 it PLAYS no more: FROZEN, OVER, AWAY, WAITS");
        NestedClips x = Due.told("par a dur 3 times 2 (leaf b dur 1 hold; leaf c at 1 dur 1; leaf d at 2 dur 1;)");
        Due.yes(x, x.play(6), 2 + 2 + 3 + 2 + 2 + 2);
        event(x, 0, 1, 1, 1, NONE);
        event(x, 1, 0, 1, 2, 0);
        event(x, 2, 1, 2, 2, NONE);
        event(x, 3, 0, 2, 3, 0);
        event(x, 4, 2, 3, 0, 0);
        event(x, 5, 0, 3, 1, 0);
        event(x, 6, 1, 3, 3, NONE);
        event(x, 11, 1, 6, 0, NONE);
        event(x, 12, 1, 6, 3, NONE);
    }

    /** A PLAY up to the TIME at which it has so many EVENTS, or one more. */
    private static NestedClips withEvents(int many) {
        NestedClips x = Due.told("par a at 1 dur 8 times 9 (leaf b dur 1 times 8;)");
        // At 1 both begin; then b has another PASS at each TIME, and a has one at 9, 17 and so on.
        int time = 0;
        int events = 0;
        while (events < many && time < 72) {
            time++;
            events += time % 8 == 1 ? 2 : 1;
        }
        Due.yes(x, x.play(time), events);
        return x;
    }

    private static void eventsUpTo64() {
        Due.of("Promise 47: the i-th EVENT of the latest PLAY (0 to 63; others are not kept)");
        for (int many = 60; many <= 70; many++) {
            NestedClips x = withEvents(many);
            int events = x.many(8);
            Due.is(events == many || events == many + 1 ? 1 : 0, 1);
            for (int i = 58; i < 64; i++) {
                if (i < events) {
                    Due.is(x.event(i, 0) == 0 ? 1 : 0, 0);
                    Due.is(x.status(), 0);
                } else {
                    Due.no(x, x.event(i, 0), 8);
                }
            }
            Due.no(x, x.event(64, 0), 1);
            Due.no(x, x.event(65, 0), 1);
        }
        // 11 LEAVES and the ROOT: 12 EVENTS at a TIME, so the 64th, with number 63, is of CLIP 3 at the sixth TIME.
        NestedClips x = Due.told("par a dur 1 times 9(leaf b;leaf c;leaf d;leaf e;leaf f;leaf g;leaf h;leaf i;leaf j;leaf k;leaf l;)");
        for (int clip = 1; clip < 12; clip++) {
            x.mark(clip, Due.DUR, 1);
        }
        x.mark(0, Due.TIMES, 1);
        x.start(0, Due.AT, 0, 1);
        Due.yes(x, x.play(2), 24);
        event(x, 11, 0, 1, 11, 0);
        event(x, 12, 1, 2, 0, NONE);
        event(x, 23, 1, 2, 11, NONE);
        Due.no(x, x.event(24, 0), 8);
        x = Due.told("seq r dur 2 times 9 (par a dur 1(leaf b;leaf c;leaf d;leaf e;leaf f;leaf g;leaf h;leaf i;leaf j;leaf k;))");
        // At 1 11 EVENTS, at 2 12, and so on: 11 + 12 + 11 + 12 + 11 = 57; at 6 the ROOT and six more are kept.
        Due.yes(x, x.play(6), 69);
        Due.is(x.many(8), 69);
        event(x, 57, 2, 6, 0, 0);
        event(x, 58, 0, 6, 1, 0);
        event(x, 63, 0, 6, 6, 0);
        Due.no(x, x.event(64, 0), 1);
    }

    private static void eventNumbers() {
        Due.of("Promise 47: (1; 8), what 0 to 3; NONE of kind 1; STATUS tells NONE from -1");
        for (int i : new int[] {LEAST, -1, 64, 65, GREATEST}) {
            Due.refused(HeadBoundsTest::some, 1, x -> x.event(i, 0));
            Due.refused(NestedClips::new, 1, x -> x.event(i, 0));
        }
        for (int what : new int[] {LEAST, -1, 4, GREATEST}) {
            Due.refused(HeadBoundsTest::some, 1, x -> x.event(0, what));
            Due.refused(HeadBoundsTest::some, 1, x -> x.event(63, what));
            Due.refused(NestedClips::new, 1, x -> x.event(0, what));
        }
        NestedClips x = some();
        int events = x.many(8);
        Due.refused(HeadBoundsTest::some, 8, y -> y.event(events, 0));
        Due.refused(HeadBoundsTest::some, 8, y -> y.event(63, 3));
        Due.refused(NestedClips::new, 8, y -> y.event(0, 0));
        Due.yes(x, x.event(events - 1, 0), 1);
        Due.yes(x, x.event(events - 1, 3), NONE);
        Due.is(x.event(events - 1, 1), 5);
    }

    private static void eventsOfTheLatestPlay() {
        Due.of("EVENTS of the latest PLAY");
        NestedClips x = some();
        Due.yes(x, x.play(1), 0);
        Due.is(x.many(8), 0);
        Due.no(x, x.event(0, 0), 8);
        x.seek(0);
        Due.yes(x, x.play(1), 3);
        Due.is(x.many(8), 3);
        event(x, 2, 0, 1, 3, 0);
        Due.no(x, x.event(3, 0), 8);
        Due.of("as if it had played from the first time on");
        // It seeks over the PRESS, and knows of it.
        x.seek(3);
        Due.is(x.local(2, 3), 0);
        Due.yes(x, x.play(1), 2);
        event(x, 0, 1, 4, 2, NONE);
        event(x, 1, 1, 4, 3, NONE);
    }

    private static void eventsStayAsTheyWere() {
        Due.of("EVENTS stay as they were told, whatever ACTS come behind them");
        NestedClips x = some();
        x.mark(1, Due.BACK, 1);
        x.lose(2);
        x.unpress(0);
        event(x, 0, 0, 1, 0, 0);
        event(x, 1, 0, 1, 1, 0);
        event(x, 3, 0, 2, 2, 1);
    }
}
