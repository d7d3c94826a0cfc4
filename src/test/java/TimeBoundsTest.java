/** What holds at a TIME (Terms 2 and 3, promises 14 to 27): each bound, and what lies next to it on either side. */
public final class TimeBoundsTest {
    private static final int NONE = Due.NONE;
    private static final int WAITS = 1;
    private static final int PLAYS = 2;
    private static final int FROZEN = 3;
    private static final int OVER = 4;

    private TimeBoundsTest() { }

    public static void main(String[] args) {
        simple();
        open();
        activeRoundedUp();
        cutIfLess();
        beginAndEnd();
        lasts();
        statesOfTheRoot();
        statesWithin();
        nothingActive();
        away();
        frozen();
        passesAndLocals();
        backwards();
        pressNoLaterThanTheTime();
        pressOfItsKey();
        firstOfThePresses();
        pressWhileItPlays();
        pressInThePass();
        pressOfOthersAround();
        startByOneThatIsOpen();
        known();
        strengthIn();
        strengthOut();
        strengthTheLeast();
        strengthOfWhatIsAround();
        strengthOfOthers();
        layersAsTheyStand();
        lightUsedUp();
        top();
        playingBits();
        asManyAsCanBe();
        Due.end();
    }

    /** STATES of a CLIP from a TIME on, a digit each. */
    private static void states(NestedClips x, int clip, int from, String due) {
        for (int i = 0; i < due.length(); i++) {
            Due.yes(x, x.state(clip, from + i), due.charAt(i) - '0');
        }
    }

    /** LOCALS of a CLIP from a TIME on, a digit each; a dot is none. */
    private static void locals(NestedClips x, int clip, int from, String due) {
        for (int i = 0; i < due.length(); i++) {
            if (due.charAt(i) == '.') {
                Due.no(x, x.local(clip, from + i), 8);
            } else {
                Due.yes(x, x.local(clip, from + i), due.charAt(i) - '0');
            }
        }
    }

    private static void passes(NestedClips x, int clip, int from, String due) {
        for (int i = 0; i < due.length(); i++) {
            if (due.charAt(i) == '.') {
                Due.no(x, x.pass(clip, from + i), 8);
            } else {
                Due.yes(x, x.pass(clip, from + i), due.charAt(i) - '0');
            }
        }
    }

    private static void strengths(NestedClips x, int clip, int from, int... due) {
        for (int i = 0; i < due.length; i++) {
            Due.yes(x, x.strength(clip, from + i), due[i]);
        }
    }

    private static void simple() {
        Due.of("SIMPLE of a CLIP: DUR, if it is told");
        Due.is(Due.told("leaf a dur 1;").clip(0, 13), 1);
        Due.is(Due.told("leaf a dur 999;").clip(0, 13), 999);
        Due.is(Due.told("par a dur 3 (leaf b dur 9;)").clip(0, 13), 3);
        Due.is(Due.told("seq a dur 30 (leaf b dur 9;)").clip(0, 13), 30);
        Due.of("SIMPLE: else of a LEAF 10");
        Due.is(Due.told("leaf a;").clip(0, 13), 10);
        Due.is(Due.told("leaf a times 9 rate 3 cut 4;").clip(0, 13), 10);
        Due.of("SIMPLE of a PAR: the greatest END of the CLIPS right within it that are not OPEN (0 without)");
        Due.is(Due.told("par a ()").clip(0, 13), 0);
        Due.is(Due.told("par a (leaf b press 0;)").clip(0, 13), 0);
        Due.is(Due.told("par a (leaf b press 0; leaf c with b 5; leaf d dur 3;)").clip(0, 13), 3);
        Due.is(Due.told("par a (leaf b dur 7; leaf c dur 5 at 1; leaf d at 6 dur 2;)").clip(0, 13), 8);
        Due.is(Due.told("par a (par b (leaf c press 0;) par d at 4 ())").clip(0, 13), 4);
        Due.of("SIMPLE of a SEQ: the END of the last one right within it (0 without)");
        Due.is(Due.told("seq a ()").clip(0, 13), 0);
        Due.is(Due.told("seq a (leaf b dur 7; leaf c dur 5 at 1;)").clip(0, 13), 13);
        Due.is(Due.told("seq a (leaf b dur 7; par c ())").clip(0, 13), 7);
        Due.is(Due.told("seq a (leaf b dur 7; par c at 2 ())").clip(0, 13), 9);
    }

    private static void open() {
        Due.of("OPEN: a CLIP that starts by PRESS, or WITH, BEHIND one that is OPEN");
        NestedClips x = Due.told("par a (leaf b press 0; leaf c with b 0; leaf d behind c 0; leaf e;"
                + " leaf f with e 0; par g press 1 (leaf h; leaf i with h 1;) leaf j behind g 3;)");
        int[] due = {0, 1, 1, 1, 0, 0, 1, 0, 0, 1};
        for (int clip = 0; clip < due.length; clip++) {
            Due.yes(x, x.clip(clip, 15), due[clip]);
        }
        Due.is(x.many(6), 5);
        Due.is(Due.told("par a (leaf b;)").many(6), 0);
        x = Due.told("par a(leaf b with c 0;leaf c with d 0;leaf d with e 0;leaf e with f 0;leaf f with g 0;"
                + "leaf g with h 0;leaf h with i 0;leaf i with j 0;leaf j with k 0;leaf k with l 0;leaf l;)");
        Due.is(x.many(6), 0);
        x.start(11, Due.PRESS, 0, 0);
        Due.is(x.many(6), 11);
    }

    private static void activeRoundedUp() {
        Due.of("ACTIVE: SIMPLE times TIMES by RATE, rounded up");
        int[] durs = {1, 2, 3, 4, 5, 7, 8, 9, 10, 11, 12, 13};
        for (int dur : durs) {
            for (int rate = 1; rate <= 4; rate++) {
                for (int times = 1; times <= 9; times += 4) {
                    NestedClips x = Due.told("leaf a dur " + dur + " rate " + rate + " times " + times + ";");
                    int whole = dur * times;
                    int due = whole / rate + (whole % rate == 0 ? 0 : 1);
                    Due.is(x.clip(0, 14), due);
                    Due.is(x.state(0, due - 1), PLAYS);
                    Due.is(x.state(0, due), OVER);
                }
            }
        }
        Due.is(Due.told("par a rate 4 times 9 ()").clip(0, 14), 0);
        Due.is(Due.told("leaf a dur 999 rate 4 times 8;").clip(0, 14), 1998);
    }

    private static void cutIfLess() {
        Due.of("ACTIVE: CUT, if it is told and less");
        int[][] cuts = {{1, 1}, {9, 9}, {10, 10}, {11, 10}, {999, 10}};
        for (int[] cut : cuts) {
            NestedClips x = Due.told("leaf a cut " + cut[0] + ";");
            Due.is(x.clip(0, 14), cut[1]);
            Due.is(x.clip(0, 13), 10);
            Due.is(x.many(4), cut[1]);
            Due.is(x.state(0, cut[1] - 1), PLAYS);
            Due.is(x.state(0, cut[1]), OVER);
        }
        Due.is(Due.told("par a cut 5 ()").clip(0, 14), 0);
        NestedClips x = Due.told("leaf a dur 4 times 3 cut 11;");
        Due.is(x.clip(0, 14), 11);
        x.mark(0, Due.CUT, 0);
        Due.is(x.clip(0, 14), 12);
    }

    private static void beginAndEnd() {
        Due.of("BEGIN: AT: its number, in a SEQ more by the END of the one ahead of it there");
        NestedClips x = Due.told("seq a at 5 (leaf b at 3 dur 2; leaf c dur 4; par d at 1 (leaf e at 7;) leaf f at 999;)");
        int[] begins = {5, 3, 5, 10, 7, 1026};
        for (int clip = 0; clip < begins.length; clip++) {
            Due.yes(x, x.begin(clip), begins[clip]);
        }
        Due.of("WITH: BEGIN of the other one and its number; BEHIND: END of the other one and its number");
        x = Due.told("par a (leaf b at 3 dur 4; leaf c with b 0; leaf d with b 999; leaf e behind b 0; leaf f behind b 2;"
                + " leaf g behind h 1; par h at 6 ())");
        int[] others = {0, 3, 3, 1002, 7, 9, 7, 6};
        for (int clip = 0; clip < others.length; clip++) {
            Due.yes(x, x.begin(clip), others[clip]);
        }
    }

    private static void lasts() {
        Due.of("The SHOW LASTS: END of the ROOT (0 without CLIPS)");
        Due.is(new NestedClips().many(4), 0);
        Due.is(Due.told("par a ()").many(4), 0);
        Due.is(Due.told("par a at 7 ()").many(4), 7);
        Due.is(Due.told("leaf a at 7;").many(4), 17);
        Due.is(Due.told("leaf a at 7 cut 1;").many(4), 8);
        Due.is(Due.told("leaf a at 999 dur 500 times 2;").many(4), 1999);
    }

    private static void statesOfTheRoot() {
        Due.of("it WAITS, if its BEGIN is above t; it PLAYS, if t is less than its END; else it is OVER");
        NestedClips x = Due.told("leaf a at 3 dur 2;");
        states(x, 0, 0, "111224444");
        x = Due.told("leaf a dur 1;");
        states(x, 0, 0, "244");
        x = Due.told("leaf a at 999 dur 500 times 2;");
        Due.is(x.state(0, 998), WAITS);
        Due.is(x.state(0, 999), PLAYS);
        Due.is(x.state(0, 1998), PLAYS);
        Due.is(x.state(0, 1999), OVER);
        x.mark(0, Due.HOLD, 1);
        Due.is(x.state(0, 1998), PLAYS);
        Due.is(x.state(0, 1999), FROZEN);
    }

    private static void statesWithin() {
        Due.of("t, the time AROUND it: LOCAL of what is AROUND it");
        NestedClips x = Due.told("par a at 2 dur 6 (leaf b at 1 dur 2; leaf c at 5 dur 9; leaf d at 6;)");
        states(x, 1, 0, "0012244400");
        states(x, 2, 0, "0011111200");
        states(x, 3, 0, "0011111100");
        x = Due.told("par a dur 6 rate 2 times 2 (leaf b at 1 dur 2; leaf c dur 3;)");
        states(x, 0, 0, "2222224");
        locals(x, 0, 0, "024024.");
        states(x, 1, 0, "1241240");
        states(x, 2, 0, "2242240");
        locals(x, 2, 0, "02.02..");
    }

    private static void nothingActive() {
        Due.of("behind that, with HOLD and ACTIVE above 0, it is FROZEN; else it is OVER");
        NestedClips x = Due.told("par a dur 5 (par b at 2 hold () seq c at 2 hold cut 3 (par d ()) leaf e at 2 dur 1 hold;)");
        states(x, 1, 0, "114440");
        states(x, 2, 0, "114440");
        states(x, 3, 0, "000000");
        states(x, 4, 0, "112330");
        Due.no(x, x.local(1, 3), 8);
        Due.no(x, x.pass(2, 3), 8);
        Due.yes(x, x.strength(1, 3), 0);
        x = Due.told("par a hold ()");
        states(x, 0, 0, "444");
        Due.is(x.state(0, 1999), OVER);
        Due.is(x.ticks(0), 0);
    }

    private static void away() {
        Due.of("if that PLAYS or is FROZEN; else the CLIP is AWAY (STATE 0)");
        NestedClips x = Due.told("seq a at 1 (leaf b dur 1; par c dur 2 (par d dur 1 (leaf e;)) leaf f dur 2;)");
        states(x, 0, 0, "1222224");
        states(x, 1, 0, "0244440");
        states(x, 2, 0, "0122440");
        states(x, 3, 0, "0024000");
        states(x, 4, 0, "0020000");
        states(x, 5, 0, "0111220");
        x.mark(2, Due.HOLD, 1);
        states(x, 2, 0, "0122330");
        states(x, 3, 0, "0024440");
        states(x, 4, 0, "0020000");
        x.mark(3, Due.HOLD, 1);
        states(x, 3, 0, "0023330");
        states(x, 4, 0, "0022220");
        x.mark(0, Due.HOLD, 1);
        states(x, 4, 0, "0022222");
        Due.is(x.state(4, 1999), PLAYS);
    }

    private static void frozen() {
        Due.of("FROZEN, u is ACTIVE less 1");
        NestedClips x = Due.told("leaf a dur 4 rate 3 times 2 hold;");
        // u 0, 1, 2: 0, 3, 6 by 4.
        states(x, 0, 0, "22233");
        locals(x, 0, 0, "03222");
        passes(x, 0, 0, "00111");
        Due.is(x.local(0, 1999), 2);
        Due.is(x.pass(0, 1999), 1);
        x.mark(0, Due.CUT, 1);
        states(x, 0, 0, "233");
        locals(x, 0, 0, "000");
        x = Due.told("leaf a dur 3 back hold;");
        locals(x, 0, 0, "21000");
        Due.is(x.local(0, 1999), 0);
    }

    private static void passesAndLocals() {
        Due.of("u times RATE, by SIMPLE, cut, is its PASS, what is left of that its LOCAL");
        NestedClips x = Due.told("leaf a dur 3 times 3;");
        locals(x, 0, 0, "012012012.");
        passes(x, 0, 0, "000111222.");
        x = Due.told("leaf a dur 1 times 9;");
        locals(x, 0, 0, "000000000.");
        passes(x, 0, 0, "012345678.");
        x = Due.told("leaf a dur 3 rate 4 times 9;");
        locals(x, 0, 0, "0120120.");
        passes(x, 0, 0, "0124568.");
        x = Due.told("leaf a dur 4 rate 4 times 9;");
        locals(x, 0, 0, "000000000.");
        passes(x, 0, 0, "012345678.");
    }

    private static void backwards() {
        Due.of("with BACK LOCAL is SIMPLE less 1 less that");
        NestedClips x = Due.told("leaf a dur 3 times 2 back;");
        locals(x, 0, 0, "210210.");
        passes(x, 0, 0, "000111.");
        x = Due.told("leaf a dur 1 back;");
        locals(x, 0, 0, "0.");
        x = Due.told("leaf a dur 5 rate 2 back;");
        locals(x, 0, 0, "420.");
        x = Due.told("par a dur 4 back (leaf b dur 2; leaf c at 3 dur 1; leaf d at 1 hold dur 1;)");
        states(x, 1, 0, "44220");
        locals(x, 1, 0, "..10.");
        states(x, 2, 0, "21110");
        states(x, 3, 0, "33210");
    }

    private static NestedClips pressed(int key, int... times) {
        NestedClips x = Due.told("par a dur 9 hold (leaf b dur 2 press 1;)");
        for (int time : times) {
            x.press(key, time);
        }
        return x;
    }

    private static void pressNoLaterThanTheTime() {
        Due.of("BEGIN by PRESS: LOCAL of what is AROUND it at the first of the PRESSES .. no later than the TIME");
        states(pressed(1), 1, 0, "1111111111");
        states(pressed(1, 0), 1, 0, "2244444444");
        states(pressed(1, 3), 1, 0, "1112244444");
        states(pressed(1, 8), 1, 0, "1111111122");
        states(pressed(1, 9), 1, 0, "1111111111");
        NestedClips x = pressed(1, 3);
        Due.no(x, x.known(1, 2), 8);
        Due.yes(x, x.known(1, 3), 3);
        Due.yes(x, x.known(1, 1999), 3);
        x = Due.told("par a dur 999 times 2 hold (leaf b dur 2 press 1;)");
        x.press(1, 1997);
        Due.is(x.state(1, 1996), WAITS);
        Due.is(x.state(1, 1997), PLAYS);
        // It holds LOCAL 998 from 1,998 on.
        Due.is(x.state(1, 1999), PLAYS);
        Due.is(x.local(1, 1999), 0);
    }

    private static void pressOfItsKey() {
        Due.of("the PRESSES of its key");
        for (int key = 0; key <= 3; key++) {
            NestedClips x = pressed(key, 3);
            Due.is(x.state(1, 3), key == 1 ? PLAYS : WAITS);
            x.start(1, Due.PRESS, 0, key == 1 ? 0 : key);
            Due.is(x.state(1, 3), key == 1 ? WAITS : PLAYS);
        }
    }

    private static void firstOfThePresses() {
        Due.of("the first of the PRESSES");
        states(pressed(1, 3, 5), 1, 0, "1112244444");
        states(pressed(1, 5, 3), 1, 0, "1112244444");
        states(pressed(1, 8, 7, 6, 5, 4, 3), 1, 0, "1112244444");
        NestedClips x = pressed(1, 8, 3);
        x.unpress(1);
        states(x, 1, 0, "1111111122");
        x.undo();
        states(x, 1, 0, "1112244444");
    }

    private static void pressWhileItPlays() {
        Due.of("at which that PLAYS");
        NestedClips x = Due.told("seq r (leaf z dur 2; par a dur 3 hold (leaf b dur 9 press 0;) leaf y dur 3;)");
        int[] times = {1, 2, 3, 4, 5, 7};
        String[] due = {"001111110", "002222220", "001222220", "001122220", "001111110", "001111110"};
        for (int i = 0; i < times.length; i++) {
            x.press(0, times[i]);
            states(x, 3, 0, due[i]);
            x.undo();
        }
        // One that doesn't count is not the first of those that do.
        x.press(0, 1);
        x.press(0, 4);
        x.press(0, 5);
        states(x, 3, 0, "001122220");
    }

    private static void pressInThePass() {
        Due.of("with the PASS of it and of each CLIP around it as at the TIME");
        NestedClips x = Due.told("par r dur 8 times 2 (par q dur 4 times 2 (leaf b dur 1 press 0;))");
        states(x, 2, 0, "11111111111111110");
        x.press(0, 3);
        states(x, 2, 0, "11121111111111110");
        x.press(0, 4);
        states(x, 2, 0, "11122444111111110");
        x.press(0, 10);
        states(x, 2, 0, "11122444112411110");
        x.press(0, 15);
        states(x, 2, 0, "11122444112411120");
        // Two in one PASS: the first of them.
        x.press(0, 6);
        states(x, 2, 0, "11122444112411120");
        x.press(0, 1);
        states(x, 2, 0, "12442444112411120");
    }

    private static void pressOfOthersAround() {
        Due.of("BEGIN by PRESS within what begins by PRESS");
        NestedClips x = Due.told("par r dur 9 (par q dur 5 press 0 (leaf b dur 2 press 0; leaf c dur 1 press 1;))");
        x.press(0, 2);
        states(x, 1, 0, "1122222440");
        states(x, 2, 0, "0022444000");
        states(x, 3, 0, "0011111000");
        x.press(1, 6);
        states(x, 3, 0, "0011112000");
        x.press(1, 7);
        states(x, 3, 0, "0011112000");
        x.press(1, 2);
        states(x, 3, 0, "0024444000");
        x.press(0, 1);
        states(x, 1, 0, "1222224440");
        states(x, 2, 0, "0224440000");
    }

    private static void startByOneThatIsOpen() {
        Due.of("not known without such a one (so not of what starts WITH, BEHIND it)");
        NestedClips x = Due.told("par a dur 9 (leaf b dur 2 press 1; leaf c dur 1 with b 0; leaf d dur 1 behind b 0;"
                + " leaf e dur 1 behind d 1; leaf f dur 1 with c 3;)");
        for (int clip = 1; clip <= 5; clip++) {
            states(x, clip, 0, "1111111110");
            Due.no(x, x.known(clip, 8), 8);
        }
        x.press(1, 3);
        states(x, 1, 0, "1112244440");
        states(x, 2, 0, "1112444440");
        states(x, 3, 0, "1111124440");
        states(x, 4, 0, "1111111240");
        states(x, 5, 0, "1111112440");
        int[] begins = {3, 3, 5, 7, 6};
        for (int clip = 1; clip <= 5; clip++) {
            Due.no(x, x.known(clip, 2), 8);
            Due.yes(x, x.known(clip, 3), begins[clip - 1]);
            Due.yes(x, x.known(clip, 8), begins[clip - 1]);
            Due.no(x, x.known(clip, 9), 8);
        }
    }

    private static void known() {
        Due.of("Promise 23: BEGIN of a CLIP as it is known at a TIME");
        NestedClips x = Due.told("par a at 2 dur 3 (leaf b at 999; leaf c press 0; seq d dur 1 (leaf e;))");
        Due.yes(x, x.known(0, 0), 2);
        Due.yes(x, x.known(0, 1999), 2);
        Due.no(x, x.known(1, 1), 8);
        Due.yes(x, x.known(1, 2), 999);
        Due.yes(x, x.known(1, 4), 999);
        Due.no(x, x.known(1, 5), 8);
        Due.no(x, x.known(2, 2), 8);
        Due.yes(x, x.known(4, 2), 0);
        Due.no(x, x.known(4, 3), 8);
    }

    private static void strengthIn() {
        Due.of("STRENGTH: of u and 1 times 100 by IN and 1, cut");
        strengths(Due.told("leaf a dur 4;"), 0, 0, 100, 100, 100, 100, 0);
        strengths(Due.told("leaf a dur 4 in 1;"), 0, 0, 50, 100, 100, 100, 0);
        strengths(Due.told("leaf a dur 4 in 2;"), 0, 0, 33, 66, 100, 100, 0);
        strengths(Due.told("leaf a at 1 dur 4 in 6;"), 0, 0, 0, 14, 28, 42, 57, 0);
        NestedClips x = Due.told("leaf a dur 30 in 20;");
        for (int u = 0; u < 30; u++) {
            Due.is(x.strength(0, u), Math.min(100, (u + 1) * 100 / 21));
        }
        Due.is(x.strength(0, 19), 95);
        Due.is(x.strength(0, 20), 100);
    }

    private static void strengthOut() {
        Due.of("STRENGTH: of ACTIVE less u times 100 by OUT and 1, cut");
        strengths(Due.told("leaf a dur 4 out 1;"), 0, 0, 100, 100, 100, 50, 0);
        strengths(Due.told("leaf a dur 4 out 2;"), 0, 0, 100, 100, 66, 33, 0);
        strengths(Due.told("leaf a dur 4 out 6;"), 0, 0, 57, 42, 28, 14, 0);
        NestedClips x = Due.told("leaf a dur 30 out 20;");
        for (int u = 0; u < 30; u++) {
            Due.is(x.strength(0, u), Math.min(100, (30 - u) * 100 / 21));
        }
        Due.is(x.strength(0, 29), 4);
        // By ACTIVE, not by SIMPLE: TIMES, RATE and CUT count; of FROZEN u stays at ACTIVE less 1.
        strengths(Due.told("leaf a dur 2 times 2 out 1;"), 0, 0, 100, 100, 100, 50, 0);
        strengths(Due.told("leaf a dur 4 rate 2 out 1;"), 0, 0, 100, 50, 0);
        strengths(Due.told("leaf a dur 9 cut 2 out 1;"), 0, 0, 100, 50, 0);
        strengths(Due.told("leaf a dur 2 out 1 hold;"), 0, 0, 100, 50, 50, 50);
        strengths(Due.told("leaf a dur 2 in 3 hold;"), 0, 0, 25, 50, 50, 50);
        Due.of("STRENGTH: (u goes on with BACK, too)");
        strengths(Due.told("leaf a dur 4 out 2 back;"), 0, 0, 100, 100, 66, 33, 0);
        strengths(Due.told("leaf a dur 4 in 2 back;"), 0, 0, 33, 66, 100, 100, 0);
    }

    private static void strengthTheLeast() {
        Due.of("STRENGTH: .. and of 100 the least");
        strengths(Due.told("leaf a dur 5 in 2 out 3;"), 0, 0, 33, 66, 75, 50, 25, 0);
        strengths(Due.told("leaf a dur 1 in 1 out 3;"), 0, 0, 25, 0);
        strengths(Due.told("leaf a dur 1 in 3 out 1;"), 0, 0, 25, 0);
        strengths(Due.told("leaf a dur 1 in 20 out 20;"), 0, 0, 4, 0);
    }

    private static void strengthOfWhatIsAround() {
        Due.of("STRENGTH: times the STRENGTH of what is AROUND it (of the ROOT: 100) by 100, cut");
        NestedClips x = Due.told("par a dur 4 in 2 (par b dur 4 in 2 (leaf c dur 4 in 2; leaf d dur 4;))");
        strengths(x, 0, 0, 33, 66, 100, 100, 0);
        strengths(x, 1, 0, 10, 43, 100, 100, 0);
        strengths(x, 2, 0, 3, 28, 100, 100, 0);
        strengths(x, 3, 0, 10, 43, 100, 100, 0);
        x = Due.told("par a in 20 dur 9 (par b in 20 dur 9 (leaf c dur 9;))");
        Due.is(x.strength(0, 0), 4);
        Due.is(x.strength(1, 0), 0);
        Due.is(x.strength(2, 0), 0);
        Due.is(x.state(2, 0), PLAYS);
        // What is FROZEN around it counts as it is held.
        x = Due.told("par a dur 2 out 1 hold (leaf b;)");
        strengths(x, 1, 0, 100, 50, 50, 50);
        Due.is(x.strength(1, 1999), 50);
    }

    private static void strengthOfOthers() {
        Due.of("STRENGTH: of others 0");
        NestedClips x = Due.told("seq a at 1 (leaf b dur 1; leaf c dur 1;)");
        strengths(x, 0, 0, 0, 100, 100, 0);
        strengths(x, 1, 0, 0, 100, 0, 0);
        strengths(x, 2, 0, 0, 0, 100, 0);
        Due.is(x.strength(0, 1999), 0);
    }

    private static void layersAsTheyStand() {
        Due.of("LEAVES stand by their LAYERS, the greatest first, of one LAYER the greatest number first");
        NestedClips x = Due.told("par a dur 1 (leaf b in 1 layer 9; leaf c in 1; leaf d in 1 layer 8; leaf e in 1 layer 9;"
                + " leaf f in 1;)");
        // e, b, d, f, c: 50, 25, 12, 6 (of 13), 3 (of 7); 4 are left.
        int[] shares = {25, 3, 12, 50, 6};
        for (int leaf = 1; leaf <= 5; leaf++) {
            Due.yes(x, x.share(leaf, 0), shares[leaf - 1]);
        }
        Due.yes(x, x.dark(0), 4);
        Due.yes(x, x.top(0), 4);
        x.mark(4, Due.LAYER, 8);
        Due.is(x.share(1, 0), 50);
        Due.is(x.share(4, 0), 25);
        Due.is(x.share(3, 0), 12);
        Due.yes(x, x.top(0), 1);
        // A LAYER of a PAR, or a place within it, makes no difference.
        x.mark(0, Due.LAYER, 9);
        x.move(5, 0);
        Due.is(x.share(1, 0), 50);
        Due.is(x.share(5, 0), 6);
    }

    private static void lightUsedUp() {
        Due.of("the LIGHT is 100: .. a SHARE: LIGHT times its STRENGTH by 100, cut; what is left at last is DARK");
        NestedClips x = Due.told("par a dur 2 (leaf b; leaf c; leaf d dur 1 in 1;)");
        Due.yes(x, x.share(3, 0), 50);
        Due.yes(x, x.share(2, 0), 50);
        Due.yes(x, x.share(1, 0), 0);
        Due.yes(x, x.dark(0), 0);
        Due.yes(x, x.share(3, 1), 0);
        Due.yes(x, x.share(2, 1), 100);
        Due.yes(x, x.dark(1), 0);
        Due.yes(x, x.share(2, 2), 0);
        Due.yes(x, x.dark(2), 100);
        Due.is(new NestedClips().dark(0), 100);
        Due.is(Due.told("par a dur 5 ()").dark(0), 100);
        x = Due.told("leaf a dur 9 in 2;");
        Due.is(x.share(0, 0), 33);
        Due.is(x.dark(0), 67);
        // FROZEN ones have a SHARE as well.
        x = Due.told("par a dur 5 (leaf b dur 1 hold; leaf c dur 5;)");
        Due.is(x.share(1, 3), 0);
        x.mark(1, Due.LAYER, 1);
        Due.is(x.share(1, 3), 100);
        Due.is(x.share(2, 3), 0);
        // 4 of 100, then 3 (96 times 4 by 100 is 3.84), and so on.
        x = Due.told("par a dur 1(leaf b in 20;leaf c in 20;leaf d in 20;)");
        Due.is(x.share(3, 0), 4);
        Due.is(x.share(2, 0), 3);
        Due.is(x.share(1, 0), 3);
        Due.is(x.dark(0), 90);
    }

    private static void top() {
        Due.of("Promise 27: the LEAF with the greatest SHARE above 0, of several the first as they stand");
        NestedClips x = Due.told("par a dur 2 (leaf b; leaf c in 1;)");
        Due.is(x.share(1, 0), 50);
        Due.is(x.share(2, 0), 50);
        Due.yes(x, x.top(0), 2);
        x.mark(1, Due.LAYER, 1);
        x.mark(1, Due.IN, 1);
        x.mark(2, Due.IN, 0);
        Due.is(x.share(1, 0), 50);
        Due.is(x.share(2, 0), 50);
        Due.yes(x, x.top(0), 1);
        x.mark(1, Due.IN, 2);
        Due.is(x.share(1, 0), 33);
        Due.yes(x, x.top(0), 2);
        Due.no(x, x.top(2), 8);
        // It PLAYS, with a SHARE of 0: none is on top.
        x = Due.told("par a in 20 dur 9 (par b in 20 (leaf c;))");
        Due.is(x.state(2, 0), PLAYS);
        Due.no(x, x.top(0), 8);
        Due.is(x.dark(0), 100);
        Due.is(x.share(2, 3), 3);
        Due.yes(x, x.top(3), 2);
        x = Due.told("par a dur 5 ()");
        Due.no(x, x.top(0), 8);
    }

    private static void playingBits() {
        Due.of("Promise 22: the CLIPS that PLAY (frozen: are FROZEN), as bits");
        NestedClips x = new NestedClips();
        x.add(Due.PAR, NONE);
        for (int clip = 1; clip < 12; clip++) {
            x.add(Due.LEAF, 0);
        }
        Due.yes(x, x.playing(0, false), 4095);
        Due.yes(x, x.playing(9, false), 4095);
        Due.yes(x, x.playing(10, false), 0);
        Due.yes(x, x.playing(0, true), 0);
        x.mark(11, Due.HOLD, 1);
        x.mark(11, Due.DUR, 2);
        Due.yes(x, x.playing(1, true), 0);
        Due.yes(x, x.playing(2, true), 2048);
        Due.yes(x, x.playing(2, false), 2047);
        x.mark(0, Due.HOLD, 1);
        Due.yes(x, x.playing(1999, true), 2049);
        Due.yes(x, x.playing(1999, false), 2046);
    }

    /** Twelve CLIPS, six PRESSES, four around the innermost. */
    private static void asManyAsCanBe() {
        Due.of("as many as there can be");
        NestedClips x = Due.told("par a dur 20(par b dur 15 press 0(par c dur 10 press 1(par d dur 8 press 2(leaf e dur 1 press 3;"
                + "leaf f dur 1 with e 1;leaf g dur 1 with f 1;leaf h dur 1 with g 1;leaf i dur 1 behind h 0;)leaf j dur 1;)"
                + "leaf k dur 1;)leaf l dur 1;)");
        x.press(3, 5);
        x.press(2, 4);
        x.press(1, 3);
        x.press(0, 2);
        x.press(3, 1);
        x.press(3, 9);
        int[] begins = {0, 2, 3, 4, 5, 6, 7, 8, 9};
        for (int clip = 0; clip < begins.length; clip++) {
            for (int time = 0; time < 10; time++) {
                boolean plays = time >= begins[clip] && (clip < 4 || time == begins[clip]);
                Due.is(x.state(clip, time) == PLAYS ? 1 : 0, plays ? 1 : 0);
            }
        }
        Due.is(x.many(6), 8);
        Due.is(x.playing(4, false), 15);
        Due.is(x.playing(5, false), 31);
    }
}
