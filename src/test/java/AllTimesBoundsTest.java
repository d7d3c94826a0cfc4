/** What holds on all TIMES (Terms 4, promises 28 to 44): none, one, as many as there can be, the first and the last TIME. */
public final class AllTimesBoundsTest {
    private static final int GREATEST = Due.GREATEST;
    /** Its ROOT and what is in it are held for ever: one LEAF PLAYS at all TIMES. */
    private static final String ALWAYS = "par a dur 1 hold (leaf b dur 1;)";

    private AllTimesBoundsTest() { }

    public static void main(String[] args) {
        seen();
        brightest();
        hidden();
        piecesNoneAndOne();
        piecesOneAlone();
        piecesWhereItTurns();
        piecesSteps();
        reachTheWayItGoes();
        reachWithoutStep();
        spans();
        spanLocals();
        ticks();
        both();
        when();
        frames();
        changes();
        next();
        most();
        gaps();
        fitDur();
        fitRate();
        fitTimes();
        fitZeroAndMost();
        slackToTheLast();
        slackAndOthers();
        slackBeyondTheEnd();
        Due.end();
    }

    private static void piece(NestedClips x, int clip, int i, int... due) {
        for (int what = 0; what < 4; what++) {
            Due.yes(x, x.piece(clip, i, what), due[what]);
        }
    }

    private static void span(NestedClips x, int clip, int i, int... due) {
        for (int what = 0; what < 3; what++) {
            Due.yes(x, x.span(clip, i, what), due[what]);
        }
    }

    private static void seen() {
        Due.of("Promise 28: at how many TIMES a LEAF has a SHARE above 0");
        Due.is(Due.told(ALWAYS).seen(1), 2000);
        Due.is(Due.told("leaf a dur 1;").seen(0), 1);
        Due.is(Due.told("leaf a at 999 dur 500 times 2;").seen(0), 1000);
        Due.is(Due.told("leaf a at 999 dur 500 times 2 hold;").seen(0), 1001);
        Due.is(Due.told("par a dur 3 (leaf b at 3;)").seen(1), 0);
        // A SHARE of 1 counts, one of 0 does not: 4 by 100 of 33, of 66, of 100.
        NestedClips x = Due.told("par a in 20 dur 4 (leaf b in 2;)");
        Due.is(x.share(1, 0), 1);
        Due.is(x.seen(1), 4);
        x.mark(1, Due.IN, 20);
        Due.is(x.share(1, 1), 0);
        Due.is(x.share(1, 2), 1);
        Due.is(x.seen(1), 2);
    }

    private static void brightest() {
        Due.of("Promise 29: the first TIME at which the SHARE of a LEAF is greatest");
        Due.is(Due.told("leaf a;").brightest(0), 0);
        Due.is(Due.told(ALWAYS).brightest(1), 0);
        Due.is(Due.told("leaf a in 5;").brightest(0), 5);
        Due.is(Due.told("leaf a in 20;").brightest(0), 9);
        Due.is(Due.told("leaf a in 3 out 9;").brightest(0), 2);
        Due.is(Due.told("leaf a at 999;").brightest(0), 999);
        NestedClips x = Due.told("par a dur 1 hold (par b dur 1 (leaf c dur 1 press 0;))");
        Due.no(x, x.brightest(2), 8);
        x.press(0, 1999);
        Due.yes(x, x.brightest(2), 1999);
        // The least SHARE that is above 0: 4 by 100 of 33 is 1.
        x = Due.told("par a in 20 dur 1 (leaf b in 2;)");
        Due.is(x.share(1, 0), 1);
        Due.yes(x, x.brightest(1), 0);
        Due.yes(x, x.top(0), 1);
        Due.yes(x, x.seen(1), 1);
        Due.yes(x, x.hidden(), 0);
        x.mark(1, Due.IN, 4);
        Due.is(x.share(1, 0), 0);
        Due.no(x, x.brightest(1), 8);
        Due.no(x, x.top(0), 8);
        Due.yes(x, x.seen(1), 0);
        Due.yes(x, x.hidden(), 2);
    }

    private static void hidden() {
        Due.of("Promise 30: the LEAVES that PLAY at some TIME, and have a SHARE above 0 at none, as bits");
        Due.is(Due.told("leaf a;").hidden(), 0);
        Due.is(Due.told("par a (leaf b; leaf c;)").hidden(), 2);
        Due.is(Due.told("par a (leaf b dur 11; leaf c;)").hidden(), 0);
        Due.is(Due.told("par a (leaf b; leaf c in 1;)").hidden(), 0);
        Due.is(Due.told("par a (leaf b layer 1; leaf c;)").hidden(), 4);
        // PLAYS at none: it is not hidden; seen FROZEN alone: neither.
        Due.is(Due.told("par a dur 5 (leaf b at 5; leaf c;)").hidden(), 0);
        Due.is(Due.told("par a dur 5 (leaf b dur 1 hold; leaf c dur 1;)").hidden(), 0);
        Due.is(Due.told("par a dur 5 (leaf b dur 1 hold; leaf c dur 1 hold;)").hidden(), 2);
        // All but the last of eleven.
        Due.is(Due.told("par a(leaf b;leaf c;leaf d;leaf e;leaf f;leaf g;leaf h;leaf i;leaf j;leaf k;leaf l;)").hidden(),
                2046);
        // At the last TIME alone it PLAYS, under another one; or over it.
        NestedClips x = Due.told("par a dur 1 hold (par b dur 1 (leaf c dur 1 press 0; leaf d dur 1;))");
        Due.is(x.hidden(), 0);
        x.press(0, 1999);
        Due.is(x.hidden(), 1 << 2);
        x.mark(2, Due.LAYER, 1);
        Due.is(x.hidden(), 0);
    }

    private static void piecesNoneAndOne() {
        Due.of("PIECES of a CLIP, taken from the first TIME on at which it PLAYS");
        Due.is(Due.told("par a ()").pieces(0), 0);
        Due.is(Due.told("par a dur 3 (leaf b at 3;)").pieces(1), 0);
        NestedClips x = Due.told("leaf a at 3 dur 5;");
        Due.is(x.pieces(0), 1);
        piece(x, 0, 0, 3, 7, 1, 0);
        x = Due.told(ALWAYS);
        Due.is(x.pieces(1), 1);
        piece(x, 1, 0, 0, 1999, 0, 0);
        Due.is(x.pieces(0), 1);
        piece(x, 0, 0, 0, 0, 0, 0);
        x = Due.told("leaf a at 999 dur 500 times 2;");
        Due.is(x.pieces(0), 2);
        piece(x, 0, 0, 999, 1498, 1, 0);
        piece(x, 0, 1, 1499, 1998, 1, 0);
    }

    private static void piecesOneAlone() {
        Due.of("STEP .. 0 of one alone");
        NestedClips x = Due.told("leaf a dur 1;");
        Due.is(x.pieces(0), 1);
        piece(x, 0, 0, 0, 0, 0, 0);
        x = Due.told("leaf a dur 5 cut 1 back;");
        piece(x, 0, 0, 0, 0, 0, 4);
        // The last one is left alone, as the two ahead of it go another way: 0 1 | 0 1 | 0.
        x = Due.told("leaf a dur 2 times 3 cut 5;");
        Due.is(x.pieces(0), 3);
        piece(x, 0, 2, 4, 4, 0, 0);
        // One TIME of PLAY in each PASS of what is around it.
        x = Due.told("par a dur 3 times 3 (leaf b at 1 dur 1;)");
        Due.is(x.pieces(1), 3);
        for (int i = 0; i < 3; i++) {
            piece(x, 1, i, 1 + 3 * i, 1 + 3 * i, 0, 0);
        }
    }

    private static void piecesWhereItTurns() {
        Due.of("as many as can be; the next one begins at the next TIME behind it at which it PLAYS");
        // 0 3 2 1 | 0 3 2 1 | 0 with RATE 3 by 4: 0 3 | 2 1 0 would share none; from 0 to 3, then from 2 on by -1.
        NestedClips x = Due.told("leaf a dur 4 rate 3 times 6;");
        int[] locals = {0, 3, 2, 1, 0, 3, 2, 1};
        for (int time = 0; time < 8; time++) {
            Due.is(x.local(0, time), locals[time]);
        }
        Due.is(x.pieces(0), 3);
        piece(x, 0, 0, 0, 1, 3, 0);
        piece(x, 0, 1, 2, 4, -1, 2);
        piece(x, 0, 2, 5, 7, -1, 3);
        // It PLAYS at all TIMES, its LOCALS go on as before: 1 0 1 0 is two PIECES, not three.
        x = Due.told("leaf a dur 2 times 2 back;");
        Due.is(x.pieces(0), 2);
        piece(x, 0, 0, 0, 1, -1, 1);
        piece(x, 0, 1, 2, 3, -1, 1);
        Due.of("TIMES one behind the other at all of which it PLAYS");
        // A gap between two, over which LOCAL would go on as before.
        x = Due.told("par a dur 3 times 2 (leaf b dur 1 at 0; leaf c dur 2;)");
        Due.is(x.pieces(1), 2);
        piece(x, 1, 0, 0, 0, 0, 0);
        piece(x, 1, 1, 3, 3, 0, 0);
        Due.is(x.pieces(2), 2);
        piece(x, 2, 1, 3, 4, 1, 0);
        // FROZEN is not to PLAY.
        x = Due.told("par a dur 4 hold (leaf b dur 2 hold;)");
        Due.is(x.pieces(0), 1);
        piece(x, 0, 0, 0, 3, 1, 0);
        piece(x, 1, 0, 0, 1, 1, 0);
    }

    private static void piecesSteps() {
        Due.of("STEP, 0 and below, too; STATUS tells NONE from -1");
        piece(Due.told("leaf a dur 9 rate 4;"), 0, 0, 0, 2, 4, 0);
        piece(Due.told("leaf a dur 9 rate 4 back;"), 0, 0, 0, 2, -4, 8);
        piece(Due.told("leaf a dur 9 back;"), 0, 0, 0, 8, -1, 8);
        piece(Due.told("leaf a dur 1 times 9;"), 0, 0, 0, 8, 0, 0);
        // What is around it is held: LOCAL stays.
        NestedClips x = Due.told("par a dur 3 hold (leaf b dur 9;)");
        Due.is(x.pieces(1), 2);
        piece(x, 1, 0, 0, 2, 1, 0);
        piece(x, 1, 1, 3, 1999, 0, 2);
    }

    private static void reachTheWayItGoes() {
        Due.of("Promise 33: the first TIME in PIECE i at which its LOCAL is this one or is past it, the way it goes");
        // 0 3 6 | 1 4 7 at 0 to 5.
        NestedClips x = Due.told("leaf a dur 8 rate 3 times 2;");
        int[] first = {0, 1, 1, 1, 2, 2, 2};
        for (int local = 0; local <= 6; local++) {
            Due.yes(x, x.reach(0, 0, local), first[local]);
        }
        Due.no(x, x.reach(0, 0, 7), 8);
        Due.yes(x, x.reach(0, 1, 0), 3);
        Due.yes(x, x.reach(0, 1, 1), 3);
        Due.yes(x, x.reach(0, 1, 2), 4);
        Due.yes(x, x.reach(0, 1, 7), 5);
        Due.no(x, x.reach(0, 1, 8), 8);
        Due.no(x, x.reach(0, 2, 0), 8);
        // 8 5 2 at 0 to 2: below 2 it does not come.
        x = Due.told("leaf a dur 9 rate 3 back;");
        int[] back = {-1, -1, 2, 2, 2, 1, 1, 1, 0, 0, 0};
        for (int local = 0; local <= 10; local++) {
            Due.is(x.reach(0, 0, local), back[local]);
            Due.is(x.status(), back[local] < 0 ? 8 : 0);
        }
        Due.yes(x, x.reach(0, 0, GREATEST), 0);
        // It begins past it, with a STEP of 1: 2 3 4.
        x = Due.told("par a dur 3 back (leaf b dur 5 back;)");
        piece(x, 1, 0, 0, 2, 1, 2);
        int[] past = {0, 0, 0, 1, 2};
        for (int local = 0; local <= 4; local++) {
            Due.yes(x, x.reach(1, 0, local), past[local]);
        }
        Due.no(x, x.reach(1, 0, 5), 8);
    }

    private static void reachWithoutStep() {
        Due.of("Promise 33: (by a STEP of 0: is this one)");
        NestedClips x = Due.told("par a at 2 dur 3 hold (leaf b dur 9;)");
        Due.yes(x, x.reach(1, 1, 2), 5);
        Due.no(x, x.reach(1, 1, 1), 8);
        Due.no(x, x.reach(1, 1, 3), 8);
        Due.no(x, x.reach(1, 1, 0), 8);
        // Of one TIME alone.
        x = Due.told("leaf a dur 5 cut 1 back;");
        Due.yes(x, x.reach(0, 0, 4), 0);
        Due.no(x, x.reach(0, 0, 3), 8);
        Due.no(x, x.reach(0, 0, 5), 8);
    }

    private static void spans() {
        Due.of("SPANS of a CLIP: TIMES one behind the other (0 to 1,999) at all of which it PLAYS, as many as can be");
        Due.is(Due.told("par a ()").spans(0), 0);
        NestedClips x = Due.told("leaf a dur 1;");
        Due.is(x.spans(0), 1);
        span(x, 0, 0, 0, 0, 1);
        x = Due.told(ALWAYS);
        Due.is(x.spans(1), 1);
        span(x, 1, 0, 0, 1999, 1);
        span(x, 0, 0, 0, 0, 1);
        x = Due.told("leaf a at 999 dur 500 times 2;");
        Due.is(x.spans(0), 1);
        span(x, 0, 0, 999, 1998, 500);
        x = Due.told("par a dur 2 times 9 (leaf b dur 1; leaf c dur 2; leaf d at 1;)");
        Due.is(x.spans(0), 1);
        Due.is(x.spans(1), 9);
        Due.is(x.spans(2), 1);
        Due.is(x.spans(3), 9);
        for (int i = 0; i < 9; i++) {
            span(x, 1, i, 2 * i, 2 * i, 1);
            span(x, 3, i, 2 * i + 1, 2 * i + 1, 1);
        }
        Due.no(x, x.span(1, 9, 0), 8);
        // As many as there can be: one TIME of two, 999 times.
        x = Due.told("par a dur 222 times 9 (par b dur 2 times 9 (leaf c dur 1;) par d at 18 dur 2 times 9 (leaf e dur 1;))");
        Due.is(x.spans(2), 81);
        Due.is(x.spans(4), 81);
        span(x, 4, 80, 1776 + 34, 1776 + 34, 1);
    }

    private static void spanLocals() {
        Due.of("Promise 35: how many unlike LOCALS it has in it");
        span(Due.told("leaf a dur 4 times 3;"), 0, 0, 0, 11, 4);
        span(Due.told("leaf a dur 4 rate 2 times 3;"), 0, 0, 0, 5, 2);
        span(Due.told("leaf a dur 4 rate 3 times 9;"), 0, 0, 0, 11, 4);
        span(Due.told("leaf a dur 3 back cut 2;"), 0, 0, 0, 1, 2);
        span(Due.told("leaf a dur 999 times 2;"), 0, 0, 0, 1997, 999);
        // In one SPAN fewer than in all of them.
        NestedClips x = Due.told("par a dur 9 times 2 (leaf b dur 5 press 0;)");
        x.press(0, 7);
        x.press(0, 10);
        Due.is(x.spans(1), 2);
        span(x, 1, 0, 7, 8, 2);
        span(x, 1, 1, 10, 14, 5);
        Due.is(x.frames(1), 5);
    }

    private static void ticks() {
        Due.of("Promise 36: at how many TIMES a CLIP PLAYS");
        Due.is(Due.told("par a ()").ticks(0), 0);
        Due.is(Due.told("leaf a dur 1;").ticks(0), 1);
        Due.is(Due.told("leaf a dur 1 hold;").ticks(0), 1);
        Due.is(Due.told(ALWAYS).ticks(1), 2000);
        Due.is(Due.told("leaf a at 999 dur 500 times 2;").ticks(0), 1000);
    }

    private static void both() {
        Due.of("Promise 37: at how many TIMES both PLAY");
        NestedClips x = Due.told("par a dur 9 (leaf b dur 3; leaf c at 2 dur 3; leaf d at 3 dur 2; leaf e at 9; leaf f dur 3 hold;)");
        Due.yes(x, x.both(1, 2), 1);
        Due.yes(x, x.both(2, 1), 1);
        Due.yes(x, x.both(1, 3), 0);
        Due.yes(x, x.both(2, 3), 2);
        Due.yes(x, x.both(1, 1), 3);
        Due.yes(x, x.both(4, 4), 0);
        Due.yes(x, x.both(0, 0), 9);
        Due.yes(x, x.both(5, 2), 1);
        x = Due.told("par a dur 1 hold (leaf b dur 1; leaf c;)");
        Due.yes(x, x.both(1, 2), 2000);
        Due.yes(x, x.both(0, 1), 1);
    }

    private static void when() {
        Due.of("Promise 38: the i-th TIME, from 0 on, at which a CLIP PLAYS with a LOCAL");
        NestedClips x = Due.told("leaf a at 2 dur 3 times 3 hold;");
        for (int local = 0; local < 3; local++) {
            for (int i = 0; i < 3; i++) {
                Due.yes(x, x.when(0, local, i), 2 + local + 3 * i);
            }
            // FROZEN doesn't count.
            Due.no(x, x.when(0, local, 3), 8);
        }
        Due.no(x, x.when(0, 3, 0), 8);
        x = Due.told(ALWAYS);
        Due.yes(x, x.when(1, 0, 0), 0);
        Due.yes(x, x.when(1, 0, 1999), 1999);
        Due.no(x, x.when(1, 0, 2000), 8);
        Due.no(x, x.when(1, 1, 0), 8);
        x = Due.told("leaf a dur 999;");
        Due.yes(x, x.when(0, 998, 0), 998);
        Due.no(x, x.when(0, 999, 0), 8);
    }

    private static void frames() {
        Due.of("Promise 39: how many unlike LOCALS a CLIP has where it PLAYS");
        Due.is(Due.told("par a ()").frames(0), 0);
        Due.is(Due.told("par a dur 1 (leaf b at 1;)").frames(1), 0);
        Due.is(Due.told(ALWAYS).frames(1), 1);
        Due.is(Due.told("leaf a dur 4 rate 4 times 9;").frames(0), 1);
        Due.is(Due.told("leaf a dur 5 rate 4 times 9;").frames(0), 5);
        Due.is(Due.told("leaf a dur 4 times 2 back;").frames(0), 4);
        Due.is(Due.told("leaf a dur 4 times 9 rate 3 back;").frames(0), 4);
        Due.is(Due.told("leaf a dur 499 times 4 back;").frames(0), 499);
        Due.is(Due.told("leaf a dur 999 times 2;").frames(0), 999);
        Due.is(Due.told("seq a (leaf b dur 999; leaf c dur 999; leaf d dur 1;)").frames(0), 1999);
        Due.is(Due.told("seq a back (leaf b dur 999; leaf c dur 999; leaf d dur 1;)").frames(0), 1999);
        // It goes on to LOCALS far beyond the TIMES.
        Due.is(Due.told("seq a cut 999 (leaf b dur 999 times 9;)").frames(1), 999);
        Due.is(Due.told("seq a cut 900 rate 4 back (leaf b dur 999 times 9;)").frames(0), 900);
        // FROZEN with a LOCAL that it has not where it PLAYS is none more; 0 2 where it PLAYS.
        Due.is(Due.told("leaf a dur 3 rate 2 hold;").frames(0), 2);
    }

    private static void changes() {
        Due.of("CHANGE: a TIME at which some CLIP's STATE is another one than at the TIME ahead (0 is none)");
        Due.is(new NestedClips().many(7), 0);
        Due.is(Due.told("par a ()").many(7), 0);
        Due.is(Due.told("par a at 1 ()").many(7), 1);
        Due.is(Due.told("leaf a;").many(7), 1);
        Due.is(Due.told("leaf a dur 1 at 1;").many(7), 2);
        Due.is(Due.told("leaf a dur 2 times 9;").many(7), 1);
        Due.is(Due.told("leaf a at 999 dur 500 times 2;").many(7), 2);
        // One CHANGE, though many CLIPS have another STATE at it.
        Due.is(Due.told("par a at 3 (leaf b; leaf c; seq d (leaf e;))").many(7), 2);
        Due.is(Due.told("par a dur 2 times 9 (leaf b dur 1;)").many(7), 18);
        // b goes from 3 to 2 where z goes from 1 to 2.
        Due.is(Due.told("par r dur 7 (par p dur 3 times 2 (leaf b dur 2 hold;) leaf z at 3 dur 4;)").many(7), 5);
        Due.is(Due.told("par r dur 7 (par p dur 3 times 2 (leaf b dur 2 hold;) leaf z at 3 dur 4;)").next(2), 3);
        // From WAITS to WAITS as its BEGIN gets known, and from one PASS to the next, is no CHANGE.
        NestedClips x = Due.told("par a dur 9 (leaf b press 0; leaf c with b 9;)");
        x.press(0, 4);
        Due.is(x.many(7), 2);
        x = Due.told("par a dur 1 hold (par b dur 1 (leaf c dur 1 press 0;))");
        Due.is(x.many(7), 1);
        x.press(0, 1999);
        Due.is(x.many(7), 2);
    }

    private static void next() {
        Due.of("Promise 40: the first CHANGE behind a TIME");
        NestedClips x = Due.told("leaf a at 999 dur 500 times 2;");
        Due.yes(x, x.next(0), 999);
        Due.yes(x, x.next(998), 999);
        Due.yes(x, x.next(999), 1999);
        Due.yes(x, x.next(1998), 1999);
        Due.no(x, x.next(1999), 8);
        x = Due.told("leaf a dur 1;");
        Due.yes(x, x.next(0), 1);
        Due.no(x, x.next(1), 8);
        x = Due.told("par a ()");
        Due.no(x, x.next(0), 8);
        x = Due.told("par a dur 2 times 9 (leaf b dur 1;)");
        for (int time = 0; time < 18; time++) {
            Due.yes(x, x.next(time), time + 1);
        }
        Due.no(x, x.next(18), 8);
        // Each STATE of each CLIP: only the last of twelve changes, from 2 to 3, from 2 to 4, from 1 to 2.
        x = Due.told("par a hold(leaf b;leaf c;leaf d;leaf e;leaf f;leaf g;leaf h;leaf i;leaf j;leaf k;leaf l dur 3;)");
        Due.yes(x, x.next(0), 3);
        x.mark(11, Due.HOLD, 1);
        Due.yes(x, x.next(0), 3);
        x.start(11, Due.AT, 0, 1);
        Due.yes(x, x.next(0), 1);
        Due.yes(x, x.next(1), 4);
    }

    private static void most() {
        Due.of("Promise 41: the most LEAVES that PLAY at one TIME, the first TIME at which so many do");
        NestedClips x = Due.told("par a(leaf b;leaf c;leaf d;leaf e;leaf f;leaf g;leaf h;leaf i;leaf j;leaf k;leaf l;)");
        Due.yes(x, x.most(0), 11);
        Due.yes(x, x.most(1), 0);
        x.start(11, Due.AT, 0, 9);
        Due.yes(x, x.most(0), 11);
        Due.yes(x, x.most(1), 9);
        x.start(11, Due.AT, 0, 10);
        Due.yes(x, x.most(0), 10);
        Due.yes(x, x.most(1), 0);
        x = Due.told("par a dur 5 ()");
        Due.yes(x, x.most(0), 0);
        Due.yes(x, x.most(1), 0);
        // FROZEN ones and those that are no LEAVES don't count.
        x = Due.told("par a at 1 (leaf b dur 1 hold; seq c at 2 (leaf d;))");
        Due.yes(x, x.most(0), 1);
        Due.yes(x, x.most(1), 1);
        x = Due.told("leaf a at 999;");
        Due.yes(x, x.most(1), 999);
        x = Due.told("par a dur 1 hold (par b dur 1 (leaf c dur 1 press 0;))");
        x.press(0, 1999);
        Due.yes(x, x.most(0), 1);
        Due.yes(x, x.most(1), 1999);
    }

    private static void gaps() {
        Due.of("Promise 42: at how many TIMES below how long it LASTS no LEAF PLAYS");
        Due.is(Due.told("leaf a;").gaps(), 0);
        Due.is(Due.told("leaf a at 1;").gaps(), 1);
        Due.is(Due.told("leaf a at 999 dur 500 times 2;").gaps(), 999);
        Due.is(Due.told("par a ()").gaps(), 0);
        Due.is(Due.told("par a at 5 ()").gaps(), 5);
        Due.is(Due.told("seq a at 999 dur 500 times 2 ()").gaps(), 1999);
        Due.is(Due.told("seq a (leaf b dur 2; leaf c dur 2 at 1;)").gaps(), 1);
        Due.is(Due.told("seq a dur 7 (leaf b dur 2 hold; leaf c dur 2 at 1 hold;)").gaps(), 3);
        // Behind its end no TIME is a gap, nor is one in which what is held goes on.
        Due.is(Due.told("par a dur 4 hold (leaf b dur 2;)").gaps(), 2);
    }

    private static void fitDur() {
        Due.of("Promise 43: DUR, 1 to 999: the least number with which the SHOW LASTS just so long");
        NestedClips x = Due.told("leaf a at 3;");
        Due.no(x, x.fit(0, 0, 3), 8);
        Due.yes(x, x.fit(0, 0, 4), 1);
        Due.yes(x, x.fit(0, 0, 5), 2);
        Due.yes(x, x.fit(0, 0, 1001), 998);
        Due.yes(x, x.fit(0, 0, 1002), 999);
        Due.no(x, x.fit(0, 0, 1003), 8);
        // By RATE several DURS LAST alike: the least of them.
        x = Due.told("leaf a rate 3;");
        Due.yes(x, x.fit(0, 0, 1), 1);
        Due.yes(x, x.fit(0, 0, 2), 4);
        Due.yes(x, x.fit(0, 0, 333), 997);
        Due.no(x, x.fit(0, 0, 334), 8);
        // By TIMES not every length can be.
        x = Due.told("leaf a times 2;");
        Due.yes(x, x.fit(0, 0, 10), 5);
        Due.no(x, x.fit(0, 0, 11), 8);
        Due.yes(x, x.fit(0, 0, 1998), 999);
        Due.no(x, x.fit(0, 0, 1999), 8);
        // It is cut, or hidden beside a longer one.
        x = Due.told("leaf a cut 7;");
        Due.yes(x, x.fit(0, 0, 6), 6);
        Due.yes(x, x.fit(0, 0, 7), 7);
        Due.no(x, x.fit(0, 0, 8), 8);
        x = Due.told("par a (leaf b; leaf c;)");
        Due.yes(x, x.fit(1, 0, 10), 1);
        Due.yes(x, x.fit(1, 0, 11), 11);
        Due.no(x, x.fit(1, 0, 9), 8);
        // It may have one already, or none.
        x.mark(1, Due.DUR, 12);
        Due.yes(x, x.fit(1, 0, 12), 12);
        Due.yes(x, x.fit(1, 0, 10), 1);
        Due.is(x.clip(1, 4), 12);
    }

    private static void fitRate() {
        Due.of("Promise 43: RATE (1 to 4)");
        NestedClips x = Due.told("leaf a dur 12 rate 2;");
        Due.yes(x, x.fit(0, 1, 12), 1);
        Due.yes(x, x.fit(0, 1, 6), 2);
        Due.yes(x, x.fit(0, 1, 4), 3);
        Due.yes(x, x.fit(0, 1, 3), 4);
        for (int lasts : new int[] {0, 1, 2, 5, 7, 11, 13, 1999}) {
            Due.no(x, x.fit(0, 1, lasts), 8);
        }
        // 3 and 4 LAST alike, all do.
        x.mark(0, Due.DUR, 3);
        Due.yes(x, x.fit(0, 1, 1), 3);
        x.mark(0, Due.DUR, 1);
        Due.yes(x, x.fit(0, 1, 1), 1);
        // With 1 it would LAST too long, with 2 just so long.
        x = Due.told("leaf a dur 999 times 4 rate 3;");
        Due.yes(x, x.fit(0, 1, 1998), 2);
    }

    private static void fitTimes() {
        Due.of("Promise 43: TIMES (1 to 9)");
        NestedClips x = Due.told("leaf a dur 5;");
        for (int times = 1; times <= 9; times++) {
            Due.yes(x, x.fit(0, 2, 5 * times), times);
            Due.no(x, x.fit(0, 2, 5 * times + 1), 8);
            Due.no(x, x.fit(0, 2, 5 * times - 1), 8);
        }
        Due.no(x, x.fit(0, 2, 50), 8);
        x = Due.told("leaf a dur 1 rate 4;");
        Due.yes(x, x.fit(0, 2, 1), 1);
        Due.yes(x, x.fit(0, 2, 2), 5);
        Due.yes(x, x.fit(0, 2, 3), 9);
        x = Due.told("leaf a dur 999;");
        Due.yes(x, x.fit(0, 2, 1998), 2);
        Due.no(x, x.fit(0, 2, 1999), 8);
    }

    private static void fitZeroAndMost() {
        Due.of("Promise 43: lasts 0 to 1,999");
        NestedClips x = Due.told("par a (leaf b press 0;)");
        for (int what = 0; what <= 2; what++) {
            Due.yes(x, x.fit(1, what, 0), 1);
            Due.no(x, x.fit(1, what, 1), 8);
        }
        Due.no(x, x.fit(0, 0, 0), 8);
        Due.yes(x, x.fit(0, 1, 0), 1);
        Due.yes(x, x.fit(0, 2, 0), 1);
        x = Due.told("leaf a at 999 times 2;");
        Due.yes(x, x.fit(0, 0, 1999), 500);
        x = Due.told("leaf a at 999 dur 500;");
        Due.yes(x, x.fit(0, 2, 1999), 2);
    }

    private static void slackToTheLast() {
        Due.of("Promise 44: the least number above its own (999 at most) with which the SHOW would LAST longer");
        // b ends with 10 behind its number: it is longer than n from n less 9 on.
        NestedClips x = Due.told("par a (leaf b; leaf c dur 999;)");
        Due.yes(x, x.slack(1), 989);
        x.start(1, Due.AT, 0, 988);
        Due.yes(x, x.slack(1), 1);
        x.start(1, Due.AT, 0, 989);
        Due.yes(x, x.slack(1), 0);
        x.start(1, Due.AT, 0, 990);
        Due.is(x.many(4), 1000);
        Due.yes(x, x.slack(1), 0);
        // With 999 it would LAST longer, and with no lesser one; and with none that can be.
        x = Due.told("par a (leaf b; seq c (leaf d dur 999; leaf e dur 9;))");
        Due.yes(x, x.slack(1), 998);
        x.start(1, Due.AT, 0, 998);
        Due.yes(x, x.slack(1), 0);
        x.mark(4, Due.DUR, 10);
        Due.no(x, x.slack(1), 8);
        x = Due.told("leaf a at 998;");
        Due.yes(x, x.slack(0), 0);
        x.start(0, Due.AT, 0, 999);
        Due.no(x, x.slack(0), 8);
    }

    private static void slackAndOthers() {
        Due.of("Promise 44: with what starts by it; (8: with none)");
        NestedClips x = Due.told("par a (leaf b dur 50; leaf c dur 5; leaf d behind c 5 dur 10; leaf e with d 3 dur 20;)");
        // c 0 to 5, d 10 to 20, e 13 to 33: 17 later all would still be 50 long.
        Due.yes(x, x.slack(2), 17);
        Due.no(x, x.slack(3), 5);
        x.start(3, Due.AT, 0, 10);
        Due.yes(x, x.slack(3), 17);
        Due.yes(x, x.slack(2), 45);
        // Within a SEQ, and one that tells its own DUR or is cut.
        x = Due.told("par a (leaf b dur 50; seq c (leaf d dur 5; leaf e at 4 dur 5;))");
        Due.yes(x, x.slack(3), 36);
        Due.yes(x, x.slack(4), 36);
        Due.yes(x, x.slack(2), 36);
        x.mark(2, Due.DUR, 14);
        Due.no(x, x.slack(3), 8);
        Due.yes(x, x.slack(2), 36);
        x.mark(0, Due.CUT, 40);
        Due.no(x, x.slack(2), 8);
        Due.yes(x, x.slack(0), 0);
        // By RATE several numbers LAST alike.
        x = Due.told("par a rate 4 (leaf b dur 5;)");
        Due.yes(x, x.slack(1), 3);
        // Within what is OPEN nothing makes it longer.
        x = Due.told("par a (leaf z; par b press 0 (leaf c;))");
        Due.no(x, x.slack(3), 8);
        Due.no(x, x.slack(2), 5);
    }

    private static void slackBeyondTheEnd() {
        Due.of("Promise 44: it would LAST longer, though that could not be");
        NestedClips x = Due.told("leaf a at 900 dur 550 times 2 cut 999;");
        Due.is(x.many(4), 1899);
        Due.yes(x, x.slack(0), 0);
        x = Due.told("seq a at 9 (leaf b dur 995; leaf c dur 995;)");
        Due.is(x.many(4), 1999);
        Due.yes(x, x.slack(0), 0);
        Due.yes(x, x.slack(1), 0);
        Due.yes(x, x.slack(2), 0);
        Due.is(x.many(4), 1999);
        Due.is(x.clip(1, 12), 0);
    }
}
