import java.util.function.ToIntFunction;

/** ACTS (promises 6 to 13): each bound, what lies next to it, each STATUS, and the first of those that hold. */
public final class ActBoundsTest {
    private static final int NONE = Due.NONE;
    private static final int LEAF = Due.LEAF;
    private static final int PAR = Due.PAR;
    private static final int SEQ = Due.SEQ;
    private static final int DUR = Due.DUR;
    private static final int RATE = Due.RATE;
    private static final int TIMES = Due.TIMES;
    private static final int CUT = Due.CUT;
    private static final int HOLD = Due.HOLD;
    private static final int AT = Due.AT;
    private static final int WITH = Due.WITH;
    private static final int BEHIND = Due.BEHIND;
    private static final int PRESS = Due.PRESS;
    private static final int LEAST = Due.LEAST;
    private static final int GREATEST = Due.GREATEST;

    private ActBoundsTest() { }

    public static void main(String[] args) {
        addKinds();
        addAround();
        addTwelve();
        addWithinFour();
        addWithinLeaf();
        addTooLong();
        loseNumbers();
        loseRoot();
        loseStarters();
        loseNumbersAnew();
        movePlaces();
        moveRoot();
        moveKeepsOrder();
        markNumbers();
        markSoAlready();
        markTooLong();
        startNumbers();
        startSoAlready();
        startWhereItCannot();
        startRings();
        startTooLong();
        startLooksNotAtOther();
        pressNumbers();
        pressSix();
        pressUnlike();
        unpressNumbers();
        undoEight();
        undoAndGoOn();
        undoEachAct();
        undoLeavesTheHead();
        refusedIsNoAct();
        addWithoutMarks();
        actsBehindOthers();
        Due.end();
    }

    /** Of every KIND some, with PRESSES, EVENTS, ACTS that can be undone and bytes on the tape. */
    private static NestedClips full() {
        NestedClips x = Due.told("par a at 1 (leaf b dur 4 rate 2 in 3; seq c hold (leaf d; leaf e at 2 back; leaf f;)"
                + " leaf g with b 2; leaf h behind g 1 layer 4; leaf i press 1; par j (par k (leaf l;)))");
        x.press(1, 5);
        x.press(2, 5);
        x.press(1, 1999);
        x.mark(3, DUR, 7);
        x.undo();
        x.move(4, 0);
        x.seek(2);
        x.play(20);
        x.feed(0x6c656166, 0x20623b00, 0, 0, 0);
        return x;
    }

    /** A SHOW that LASTS 1,999: no TIME more. */
    private static NestedClips longest() {
        NestedClips x = Due.told("seq a at 9 (leaf b dur 990; par c dur 500 (leaf d; leaf e press 1;) leaf f dur 500;)");
        Due.is(x.many(4), 1999);
        return x;
    }

    private static NestedClips deep() {
        return Due.told("par a (par b (seq c (par d (leaf e; par f ()))))");
    }

    private static void refused(int why, ToIntFunction<NestedClips> call) {
        Due.refused(ActBoundsTest::full, why, call);
    }

    private static void addKinds() {
        Due.of("Promise 6: (1: KIND)");
        for (int kind : new int[] {LEAST, -1, 3, GREATEST}) {
            refused(1, x -> x.add(kind, 0));
            // First of all, whatever else holds: no such CLIP, within a LEAF.
            refused(1, x -> x.add(kind, 12));
            refused(1, x -> x.add(kind, 1));
            Due.refused(NestedClips::new, 1, x -> x.add(kind, NONE));
            Due.refused(NestedClips::new, 1, x -> x.add(kind, 0));
        }
        for (int kind = LEAF; kind <= SEQ; kind++) {
            NestedClips x = new NestedClips();
            Due.yes(x, x.add(kind, NONE), 0);
            Due.is(x.clip(0, 0), kind);
        }
    }

    private static void addAround() {
        Due.of("Promise 6: (2: not NONE while there is none, no such one while there are)");
        for (int around : new int[] {LEAST, -2, 0, 1, 12, GREATEST}) {
            Due.refused(NestedClips::new, 2, x -> x.add(PAR, around));
        }
        for (int around : new int[] {LEAST, -2, -1, 6, 7, GREATEST}) {
            Due.refused(ActBoundsTest::deep, 2, x -> x.add(PAR, around));
        }
        NestedClips x = new NestedClips();
        Due.yes(x, x.add(PAR, NONE), 0);
        Due.no(x, x.add(PAR, NONE), 2);
        Due.no(x, x.add(PAR, 1), 2);
        Due.yes(x, x.add(SEQ, 0), 1);
        Due.yes(x, x.add(SEQ, 1), 2);
        Due.is(x.clip(2, 1), 1);
        // While there is none again, NONE is what it must be.
        Due.is(x.lose(1), 1);
        Due.is(x.lose(0), 0);
        Due.no(x, x.add(PAR, 0), 2);
        Due.yes(x, x.add(PAR, NONE), 0);
    }

    private static void addTwelve() {
        Due.of("CLIPS, at most 12; Promise 6: (3)");
        NestedClips x = new NestedClips();
        x.add(PAR, NONE);
        for (int clip = 1; clip < 12; clip++) {
            Due.yes(x, x.add(LEAF, 0), clip);
            Due.is(x.clip(clip, 2), clip - 1);
        }
        Due.no(x, x.add(LEAF, 0), 3);
        refused(3, y -> y.add(LEAF, 0));
        refused(3, y -> y.add(PAR, 2));
        // Ahead of 3: no such CLIP; behind it: within a LEAF.
        refused(2, y -> y.add(LEAF, 12));
        refused(2, y -> y.add(LEAF, NONE));
        refused(3, y -> y.add(LEAF, 1));
        Due.is(x.lose(5), 11);
        Due.yes(x, x.add(SEQ, 0), 11);
        Due.no(x, x.add(SEQ, 0), 3);
    }

    private static void addWithinFour() {
        Due.of("A CLIP is within four others at most; Promise 6: (3)");
        for (int kind = LEAF; kind <= SEQ; kind++) {
            int added = kind;
            NestedClips x = deep();
            Due.yes(x, x.add(added, 3), 6);
            Due.refused(ActBoundsTest::deep, 3, y -> y.add(added, 5));
            // A LEAF that is within four others: 3 is ahead of 5.
            Due.refused(ActBoundsTest::deep, 3, y -> y.add(added, 4));
        }
    }

    private static void addWithinLeaf() {
        Due.of("within a LEAF there is none; Promise 6: (5)");
        for (int kind = LEAF; kind <= SEQ; kind++) {
            int added = kind;
            Due.refused(ActBoundsTest::longest, 5, x -> x.add(added, 1));
            Due.refused(() -> Due.told("leaf a;"), 5, x -> x.add(added, 0));
        }
    }

    private static void addTooLong() {
        Due.of("Promise 6: (7)");
        Due.refused(ActBoundsTest::longest, 7, x -> x.add(LEAF, 0));
        Due.yes(longest(), longest().add(PAR, 0), 6);
        NestedClips x = longest();
        Due.is(x.add(SEQ, 0), 6);
        Due.is(x.add(LEAF, 2), 7);
        Due.no(x, x.add(LEAF, 6), 7);
        Due.is(x.mark(1, DUR, 981), 990);
        Due.is(x.many(4), 1990);
        Due.no(x, x.add(LEAF, 6), 7);
        Due.is(x.mark(1, DUR, 980), 981);
        Due.yes(x, x.add(LEAF, 6), 8);
        Due.is(x.many(4), 1999);
        // One too many is ahead of too long.
        while (x.many(0) < 12) {
            x.add(PAR, 0);
        }
        Due.no(x, x.add(LEAF, 0), 3);
    }

    private static void loseNumbers() {
        Due.of("Promise 7: (2)");
        for (int clip : new int[] {LEAST, -1, 12, 13, GREATEST}) {
            refused(2, x -> x.lose(clip));
        }
        Due.refused(NestedClips::new, 2, x -> x.lose(0));
        Due.refused(NestedClips::new, 2, x -> x.lose(-1));
        NestedClips x = full();
        Due.yes(x, x.lose(11), 11);
        Due.no(x, x.lose(11), 2);
    }

    private static void loseRoot() {
        Due.of("Promise 7: (5: the ROOT, while others are)");
        refused(5, x -> x.lose(0));
        Due.refused(() -> Due.told("par a (leaf b;)"), 5, x -> x.lose(0));
        NestedClips x = Due.told("par a (leaf b;)");
        Due.yes(x, x.lose(1), 1);
        Due.yes(x, x.lose(0), 0);
        Due.is(x.many(4), 0);
        Due.is(x.many(0), 0);
        Due.no(x, x.lose(0), 2);
    }

    private static void loseStarters() {
        Due.of("Promise 7: (6), it goes, and one that stays starts by it");
        // b starts g, g starts h.
        refused(6, x -> x.lose(1));
        refused(6, x -> x.lose(6));
        NestedClips x = full();
        Due.yes(x, x.lose(7), 11);
        Due.yes(x, x.lose(6), 10);
        Due.yes(x, x.lose(1), 9);
        // Both go, so none that stays starts by it.
        x = Due.told("par a (par b (leaf c; leaf d with c 1; leaf e behind d 1;) leaf f;)");
        Due.yes(x, x.lose(1), 2);
        x = Due.told("par a (leaf b with c 1; par c (leaf d;))");
        Due.no(x, x.lose(2), 6);
        Due.yes(x, x.lose(3), 3);
        Due.no(x, x.lose(2), 6);
        x.start(1, AT, 0, 1);
        Due.yes(x, x.lose(2), 2);
    }

    private static void loseNumbersAnew() {
        Due.of("Promise 7: with all within it; those behind it are numbered less: how many are left");
        NestedClips x = full();
        // c goes with d, e, f (2 to 5): g, h, i, j, k, l are 2 to 7.
        Due.yes(x, x.lose(2), 8);
        int[] kinds = {PAR, LEAF, LEAF, LEAF, LEAF, PAR, PAR, LEAF};
        for (int clip = 0; clip < kinds.length; clip++) {
            Due.is(x.clip(clip, 0), kinds[clip]);
        }
        Due.is(x.clip(2, 11), 1);
        Due.is(x.clip(3, 11), 2);
        Due.is(x.clip(3, 16), 4);
        Due.is(x.clip(4, 10), PRESS);
        Due.is(x.clip(6, 1), 5);
        Due.is(x.clip(7, 1), 6);
        for (int i = 0; i < 5; i++) {
            Due.is(x.within(0, i), i + 1);
            Due.is(x.clip(i + 1, 2), i);
        }
        Due.no(x, x.within(0, 5), 8);
        Due.no(x, x.clip(8, 0), 2);
        x = full();
        // The first, one between and the last of those right within a SEQ; e is at place 0 there.
        Due.yes(x, x.lose(4), 11);
        Due.is(x.within(2, 0), 3);
        Due.is(x.within(2, 1), 4);
        Due.no(x, x.within(2, 2), 8);
        Due.is(x.clip(5, 11), 1);
        Due.yes(x, x.lose(4), 10);
        Due.yes(x, x.lose(3), 9);
        Due.is(x.clip(2, 3), 0);
        Due.is(x.clip(2, 13), 0);
    }

    private static NestedClips row() {
        return Due.told("seq a (leaf b; seq c (leaf d;) leaf e; par f (leaf g; leaf h;))");
    }

    private static void movePlaces() {
        Due.of("Promise 8: (1: below 0, no such place of a CLIP that is within one; 2; 4)");
        for (int place : new int[] {LEAST, -1, 4, 5, GREATEST}) {
            Due.refused(ActBoundsTest::row, 1, x -> x.move(1, place));
        }
        for (int place : new int[] {-1, 1, 2}) {
            Due.refused(ActBoundsTest::row, 1, x -> x.move(3, place));
        }
        Due.refused(ActBoundsTest::row, 1, x -> x.move(0, -1));
        Due.refused(ActBoundsTest::row, 1, x -> x.move(8, -1));
        Due.refused(ActBoundsTest::row, 1, x -> x.move(-1, LEAST));
        for (int clip : new int[] {LEAST, -1, 8, 9, GREATEST}) {
            Due.refused(ActBoundsTest::row, 2, x -> x.move(clip, 0));
            Due.refused(ActBoundsTest::row, 2, x -> x.move(clip, 99));
        }
        int[] right = {1, 2, 4, 5};
        for (int from = 0; from < 4; from++) {
            for (int to = 0; to < 4; to++) {
                int clip = right[from];
                int place = to;
                if (from == to) {
                    Due.refused(ActBoundsTest::row, 4, x -> x.move(clip, place));
                } else {
                    NestedClips x = row();
                    Due.yes(x, x.move(clip, place), from);
                    Due.is(x.clip(clip, 2), place);
                }
            }
        }
        // The only one: it is at its place already.
        Due.refused(ActBoundsTest::row, 4, x -> x.move(3, 0));
    }

    private static void moveRoot() {
        Due.of("Promise 8: (5: the ROOT)");
        for (int place : new int[] {0, 1, 7, GREATEST}) {
            Due.refused(ActBoundsTest::row, 5, x -> x.move(0, place));
            Due.refused(() -> Due.told("leaf a;"), 5, x -> x.move(0, place));
        }
    }

    private static void moveKeepsOrder() {
        Due.of("Promise 8: the others keep their order");
        int[] right = {1, 2, 4, 5};
        for (int from = 0; from < 4; from++) {
            for (int to = 0; to < 4; to++) {
                NestedClips x = row();
                x.move(right[from], to);
                int left = 0;
                for (int place = 0; place < 4; place++) {
                    if (place == to) {
                        Due.is(x.within(0, place), right[from]);
                    } else {
                        left += left == from ? 1 : 0;
                        Due.is(x.within(0, place), right[left]);
                        left++;
                    }
                }
                Due.is(x.within(2, 0), 3);
                Due.is(x.within(5, 0), 6);
                Due.is(x.within(5, 1), 7);
            }
        }
        NestedClips x = row();
        Due.is(x.begin(5), 30);
        Due.is(x.move(5, 1), 3);
        Due.is(x.begin(5), 10);
        Due.is(x.begin(2), 20);
        Due.is(x.begin(4), 30);
        Due.is(x.many(4), 40);
        // In a PAR nothing begins otherwise.
        Due.is(x.move(6, 1), 0);
        Due.is(x.begin(6), 0);
        Due.is(x.begin(7), 0);
    }

    private static void markNumbers() {
        Due.of("Promise 9: (1; 2); DUR (0 to 999), RATE (1 to 4), TIMES (1 to 9), CUT (0 to 999), BACK, HOLD (0, 1), LAYER (0 to 9), IN, OUT (0 to 20)");
        int[] least = {0, 1, 1, 0, 0, 0, 0, 0, 0};
        int[] most = {999, 4, 9, 999, 1, 1, 9, 20, 20};
        for (int what = 0; what <= 8; what++) {
            int which = what;
            for (int much : new int[] {LEAST, least[what] - 1, most[what] + 1, GREATEST}) {
                refused(1, x -> x.mark(3, which, much));
                refused(1, x -> x.mark(12, which, much));
            }
            for (int clip : new int[] {LEAST, -1, 12, GREATEST}) {
                refused(2, x -> x.mark(clip, which, most[which]));
                refused(2, x -> x.mark(clip, which, least[which]));
            }
            NestedClips x = Due.told("par a dur 1 (leaf b;)");
            int at = what < 6 ? what + 4 : what + 10;
            Due.yes(x, x.mark(1, what, least[what] + 1), least[what]);
            Due.is(x.clip(1, at), least[what] + 1);
            Due.yes(x, x.mark(1, what, least[what]), least[what] + 1);
            Due.yes(x, x.mark(1, what, most[what]), least[what]);
            Due.is(x.clip(1, at), most[what]);
        }
        for (int what : new int[] {LEAST, -1, 9, 10, GREATEST}) {
            refused(1, x -> x.mark(3, what, 1));
            refused(1, x -> x.mark(-1, what, 1));
        }
    }

    private static void markSoAlready() {
        Due.of("Promise 9: (4)");
        int[] least = {0, 1, 1, 0, 0, 0, 0, 0, 0};
        for (int what = 0; what <= 8; what++) {
            int which = what;
            refused(4, x -> x.mark(11, which, least[which]));
        }
        refused(4, x -> x.mark(1, DUR, 4));
        refused(4, x -> x.mark(1, RATE, 2));
        refused(4, x -> x.mark(2, HOLD, 1));
        refused(4, x -> x.mark(7, Due.LAYER, 4));
        // No DUR told is another one than the DUR that it has without.
        NestedClips x = Due.told("leaf a;");
        Due.yes(x, x.mark(0, DUR, 10), 0);
        Due.no(x, x.mark(0, DUR, 10), 4);
        Due.yes(x, x.mark(0, DUR, 0), 10);
        Due.is(x.clip(0, 13), 10);
    }

    private static void markTooLong() {
        Due.of("Promise 9: (7)");
        Due.refused(ActBoundsTest::longest, 7, x -> x.mark(1, DUR, 991));
        Due.refused(ActBoundsTest::longest, 7, x -> x.mark(1, DUR, 999));
        Due.refused(ActBoundsTest::longest, 7, x -> x.mark(5, TIMES, 2));
        Due.refused(ActBoundsTest::longest, 7, x -> x.mark(0, TIMES, 2));
        // It is so already is ahead of too long; less is never too long.
        Due.refused(ActBoundsTest::longest, 4, x -> x.mark(1, DUR, 990));
        NestedClips x = longest();
        Due.yes(x, x.mark(1, DUR, 989), 990);
        Due.yes(x, x.mark(5, DUR, 501), 500);
        Due.is(x.many(4), 1999);
        Due.no(x, x.mark(5, DUR, 502), 7);
        Due.yes(x, x.mark(5, RATE, 4), 1);
        Due.yes(x, x.mark(5, DUR, 999), 501);
        Due.no(x, x.mark(5, RATE, 1), 7);
        // A RATE less, or a CUT gone, can be too long as well.
        x = Due.told("leaf a dur 999 times 3 rate 2;");
        Due.is(x.many(4), 1499);
        Due.no(x, x.mark(0, RATE, 1), 7);
        Due.is(x.mark(0, CUT, 10), 0);
        Due.yes(x, x.mark(0, RATE, 1), 2);
        Due.no(x, x.mark(0, CUT, 0), 7);
        Due.yes(x, x.mark(0, CUT, 999), 10);
    }

    private static void startNumbers() {
        Due.of("Promise 10: (1; 2); AT (0 to 999), WITH, BEHIND (0 to 999), PRESS of a key (0 to 3)");
        for (int how : new int[] {LEAST, -1, 4, GREATEST}) {
            refused(1, x -> x.start(1, how, 6, 1));
            refused(1, x -> x.start(99, how, 99, 1));
        }
        for (int how = AT; how <= PRESS; how++) {
            int one = how;
            int most = how == PRESS ? 3 : 999;
            for (int much : new int[] {LEAST, -1, most + 1, GREATEST}) {
                refused(1, x -> x.start(9, one, 8, much));
                // Ahead of: no such CLIP, not right within a PAR, by itself.
                refused(1, x -> x.start(12, one, 8, much));
                refused(1, x -> x.start(3, one, 4, much));
                refused(1, x -> x.start(9, one, 9, much));
            }
            for (int much : new int[] {0, 1, most - 1, most}) {
                NestedClips x = Due.told("par a dur 5 (leaf b at 7; leaf c;)");
                Due.yes(x, x.start(1, one, 2, much), AT);
                Due.is(x.clip(1, 10), how);
                Due.is(x.clip(1, 12), much);
                Due.yes(x, x.clip(1, 11), how == WITH || how == BEHIND ? 2 : NONE);
            }
            for (int clip : new int[] {LEAST, -1, 12, GREATEST}) {
                refused(2, x -> x.start(clip, one, 1, 1));
            }
        }
        for (int other : new int[] {LEAST, -1, 12, GREATEST}) {
            refused(2, x -> x.start(9, WITH, other, 1));
            refused(2, x -> x.start(9, BEHIND, other, 1));
            // Ahead of: not right within a PAR.
            refused(2, x -> x.start(3, WITH, other, 1));
            refused(2, x -> x.start(0, BEHIND, other, 1));
        }
    }

    private static void startSoAlready() {
        Due.of("Promise 10: (4: all so)");
        refused(4, x -> x.start(0, AT, 5, 1));
        refused(4, x -> x.start(1, AT, 1, 0));
        refused(4, x -> x.start(4, AT, 0, 2));
        refused(4, x -> x.start(6, WITH, 1, 2));
        refused(4, x -> x.start(7, BEHIND, 6, 1));
        refused(4, x -> x.start(8, PRESS, 0, 1));
        // Each of the three alone is another one.
        NestedClips x = full();
        Due.yes(x, x.start(6, WITH, 1, 3), WITH);
        Due.yes(x, x.start(6, BEHIND, 1, 3), WITH);
        Due.yes(x, x.start(6, BEHIND, 2, 3), BEHIND);
        Due.yes(x, x.start(8, PRESS, 0, 2), PRESS);
        Due.yes(x, x.start(8, AT, 0, 2), PRESS);
        Due.yes(x, x.start(8, PRESS, 0, 2), AT);
        Due.yes(x, x.start(8, WITH, 2, 2), PRESS);
        Due.yes(x, x.start(8, AT, 2, 0), WITH);
        Due.yes(x, x.clip(8, 11), NONE);
    }

    private static void startWhereItCannot() {
        Due.of("Promise 10: (5: not right within a PAR, not right within the same)");
        for (int how = WITH; how <= PRESS; how++) {
            int one = how;
            refused(5, x -> x.start(0, one, 1, 1));
            refused(5, x -> x.start(3, one, 5, 1));
            Due.refused(() -> Due.told("leaf a;"), 5, x -> x.start(0, one, 0, 0));
            Due.refused(() -> Due.told("seq a (leaf b;)"), 5, x -> x.start(1, one, 1, 0));
        }
        for (int how = WITH; how <= BEHIND; how++) {
            int one = how;
            // Of what is around it, of what is within one beside it, of what is within another PAR, of one deeper.
            refused(5, x -> x.start(9, one, 0, 1));
            refused(5, x -> x.start(9, one, 3, 1));
            refused(5, x -> x.start(9, one, 10, 1));
            refused(5, x -> x.start(10, one, 9, 1));
            refused(5, x -> x.start(11, one, 10, 1));
            refused(5, x -> x.start(11, one, 1, 1));
            // By itself, where it can't be: 5 is ahead of 6.
            refused(5, x -> x.start(3, one, 3, 1));
            refused(5, x -> x.start(0, one, 0, 1));
        }
        NestedClips x = full();
        Due.yes(x, x.start(0, AT, 0, 2), AT);
        Due.yes(x, x.start(3, AT, 0, 2), AT);
        Due.yes(x, x.start(11, PRESS, 0, 2), AT);
        Due.yes(x, x.start(10, PRESS, 0, 3), AT);
        Due.yes(x, x.start(2, WITH, 9, 3), AT);
    }

    private static void startRings() {
        Due.of("Promise 10: (6: a RING, or by itself)");
        for (int how = WITH; how <= BEHIND; how++) {
            int one = how;
            refused(6, x -> x.start(9, one, 9, 0));
            refused(6, x -> x.start(6, one, 6, 5));
            // g starts by b, h by g.
            refused(6, x -> x.start(1, one, 6, 0));
            refused(6, x -> x.start(1, one, 7, 0));
            refused(6, x -> x.start(6, one, 7, 999));
        }
        NestedClips x = full();
        Due.yes(x, x.start(6, PRESS, 0, 0), WITH);
        Due.yes(x, x.start(1, BEHIND, 7, 0), AT);
        Due.no(x, x.start(6, WITH, 1, 0), 6);
        // Round all eleven that can be right within a PAR.
        x = new NestedClips();
        x.add(PAR, NONE);
        for (int clip = 1; clip < 12; clip++) {
            x.add(LEAF, 0);
        }
        for (int clip = 1; clip < 11; clip++) {
            Due.yes(x, x.start(clip, WITH, clip + 1, 1), AT);
        }
        Due.is(x.begin(1), 10);
        for (int other = 1; other < 12; other++) {
            Due.no(x, x.start(11, WITH, other, 1), 6);
        }
        Due.yes(x, x.start(11, PRESS, 0, 0), AT);
        Due.is(x.many(6), 11);
        Due.of("6 is ahead of 7");
        Due.refused(() -> Due.told("par a (leaf b dur 999; leaf c behind b 900;)"), 6, y -> y.start(1, BEHIND, 2, 999));
    }

    private static void startTooLong() {
        Due.of("Promise 10: (7)");
        Due.refused(ActBoundsTest::longest, 7, x -> x.start(0, AT, 0, 10));
        Due.refused(ActBoundsTest::longest, 7, x -> x.start(1, AT, 0, 1));
        Due.refused(ActBoundsTest::longest, 7, x -> x.start(5, AT, 0, 999));
        // Within a PAR that tells its own DUR it is never too long.
        NestedClips x = longest();
        Due.yes(x, x.start(3, AT, 0, 999), AT);
        Due.yes(x, x.start(0, AT, 0, 8), AT);
        Due.yes(x, x.start(1, AT, 0, 1), AT);
        Due.no(x, x.start(1, AT, 0, 2), 7);
        x = Due.told("par a (leaf b dur 999; leaf c dur 500; leaf d press 0 dur 999 times 9;)");
        Due.no(x, x.start(2, BEHIND, 1, 501), 7);
        Due.yes(x, x.start(2, BEHIND, 1, 500), AT);
        Due.is(x.many(4), 1999);
        Due.no(x, x.start(3, AT, 0, 0), 7);
        Due.no(x, x.start(3, WITH, 1, 0), 7);
        Due.yes(x, x.start(2, PRESS, 1, 0), BEHIND);
        Due.yes(x, x.start(3, WITH, 2, 999), PRESS);
        // If it is OPEN no more, nor is what starts by it.
        Due.no(x, x.start(2, AT, 1, 0), 7);
    }

    private static void startLooksNotAtOther() {
        Due.of("Promise 10: (other is not looked at for 0, 3)");
        for (int other : new int[] {LEAST, -1, 0, 1, 3, 12, GREATEST}) {
            NestedClips x = Due.told("par a (leaf b; leaf c;)");
            Due.yes(x, x.start(1, PRESS, other, 2), AT);
            Due.yes(x, x.clip(1, 11), NONE);
            Due.no(x, x.start(1, PRESS, other, 2), 4);
            Due.yes(x, x.start(1, AT, other, 2), PRESS);
            Due.yes(x, x.clip(1, 11), NONE);
            Due.no(x, x.start(1, AT, other, 2), 4);
        }
    }

    private static void pressNumbers() {
        Due.of("Promise 11: (1); a key (0 to 3) at a TIME (0 to 1,999)");
        for (int key : new int[] {LEAST, -1, 4, GREATEST}) {
            refused(1, x -> x.press(key, 5));
        }
        for (int time : new int[] {LEAST, -1, 2000, GREATEST}) {
            refused(1, x -> x.press(1, time));
        }
        NestedClips x = new NestedClips();
        Due.yes(x, x.press(0, 0), 1);
        Due.yes(x, x.press(3, 1999), 2);
        Due.yes(x, x.press(0, 1999), 3);
        Due.yes(x, x.press(3, 0), 4);
        Due.is(x.pressed(1, 0), 3);
        Due.is(x.pressed(1, 1), 1999);
    }

    private static NestedClips sixPresses() {
        NestedClips x = full();
        x.press(0, 9);
        x.press(0, 8);
        Due.is(x.press(3, 9), 6);
        return x;
    }

    private static void pressSix() {
        Due.of("PRESSES .. at most 6; Promise 11: (3)");
        Due.refused(ActBoundsTest::sixPresses, 3, x -> x.press(3, 10));
        Due.of("3 is behind 1 and ahead of 4");
        Due.refused(ActBoundsTest::sixPresses, 3, x -> x.press(0, 9));
        Due.refused(ActBoundsTest::sixPresses, 3, x -> x.press(1, 5));
        Due.refused(ActBoundsTest::sixPresses, 1, x -> x.press(4, 9));
        Due.refused(ActBoundsTest::sixPresses, 1, x -> x.press(0, 2000));
        NestedClips x = sixPresses();
        Due.yes(x, x.unpress(5), 5);
        Due.no(x, x.press(0, 9), 4);
        Due.yes(x, x.press(3, 10), 6);
        Due.no(x, x.press(3, 11), 3);
    }

    private static void pressUnlike() {
        Due.of("PRESSES .. of unlike keys or TIMES; Promise 11: (4)");
        refused(4, x -> x.press(1, 5));
        refused(4, x -> x.press(2, 5));
        refused(4, x -> x.press(1, 1999));
        NestedClips x = full();
        Due.yes(x, x.press(2, 1999), 4);
        Due.yes(x, x.press(1, 4), 5);
        Due.no(x, x.press(1, 4), 4);
        Due.yes(x, x.press(0, 4), 6);
    }

    private static void unpressNumbers() {
        Due.of("Promise 12: (1: below 0; 8)");
        for (int i : new int[] {LEAST, -2, -1}) {
            refused(1, x -> x.unpress(i));
            Due.refused(NestedClips::new, 1, x -> x.unpress(i));
        }
        for (int i : new int[] {3, 4, 6, GREATEST}) {
            refused(8, x -> x.unpress(i));
        }
        Due.refused(NestedClips::new, 8, x -> x.unpress(0));
        Due.refused(ActBoundsTest::sixPresses, 8, x -> x.unpress(6));
        Due.of("Promise 12: the i-th PRESS, as they came, goes: how many are left");
        for (int i = 0; i < 6; i++) {
            NestedClips x = sixPresses();
            int[] keys = {1, 2, 1, 0, 0, 3};
            int[] times = {5, 5, 1999, 9, 8, 9};
            Due.yes(x, x.unpress(i), 5);
            for (int left = 0; left < 5; left++) {
                Due.is(x.pressed(left, 0), keys[left < i ? left : left + 1]);
                Due.is(x.pressed(left, 1), times[left < i ? left : left + 1]);
            }
            Due.no(x, x.pressed(5, 0), 8);
            Due.no(x, x.unpress(5), 8);
        }
        NestedClips x = sixPresses();
        for (int left = 5; left >= 0; left--) {
            Due.yes(x, x.unpress(0), left);
        }
        Due.no(x, x.unpress(0), 8);
    }

    private static void undoEight() {
        Due.of("the latest 8 can be undone; Promise 13: how many can be still (8: none)");
        Due.refused(NestedClips::new, 8, NestedClips::undo);
        for (int acts = 1; acts <= 20; acts++) {
            NestedClips x = new NestedClips();
            x.add(LEAF, NONE);
            for (int i = 1; i < acts; i++) {
                x.mark(0, DUR, i);
            }
            int kept = Math.min(8, acts);
            Due.is(x.many(3), kept);
            for (int left = kept - 1; left >= 0; left--) {
                Due.yes(x, x.undo(), left);
                Due.is(x.many(3), left);
                int before = acts - kept + left;
                Due.is(x.many(0), before == 0 ? 0 : 1);
                Due.is(x.clip(0, 4), before == 0 ? NONE : before - 1);
            }
            Due.no(x, x.undo(), 8);
            // An ACT behind it counts from none on.
            Due.is(x.press(0, 0), 1);
            Due.is(x.many(3), 1);
            Due.yes(x, x.undo(), 0);
            Due.is(x.many(2), 0);
        }
    }

    private static void undoAndGoOn() {
        Due.of("the latest 8 can be undone: also those behind some that were");
        NestedClips x = new NestedClips();
        x.add(LEAF, NONE);
        for (int dur = 1; dur <= 11; dur++) {
            x.mark(0, DUR, dur);
        }
        for (int left = 7; left >= 5; left--) {
            Due.yes(x, x.undo(), left);
        }
        Due.is(x.clip(0, 4), 8);
        for (int dur = 101; dur <= 106; dur++) {
            Due.is(x.mark(0, DUR, dur), dur == 101 ? 8 : dur - 1);
            Due.is(x.many(3), Math.min(8, dur - 101 + 6));
        }
        // Ahead of the latest eight: 6, 7, 8, then 101 and on; what was undone is not among them.
        int[] due = {105, 104, 103, 102, 101, 8, 7, 6};
        for (int i = 0; i < 8; i++) {
            Due.yes(x, x.undo(), 7 - i);
            Due.is(x.clip(0, 4), due[i]);
        }
        Due.no(x, x.undo(), 8);
        Due.is(x.clip(0, 4), 6);
    }

    private static int[] seen(NestedClips x) {
        int[] all = new int[12 * 19 + 6];
        for (int i = 0; i < 12 * 19; i++) {
            all[i] = x.clip(i / 19, i % 19);
        }
        for (int i = 0; i < 6; i++) {
            all[12 * 19 + i] = x.pressed(i / 2, i % 2);
        }
        return all;
    }

    private static void undone(ToIntFunction<NestedClips> act) {
        NestedClips x = full();
        int[] before = seen(x);
        int acts = x.many(3);
        act.applyAsInt(x);
        Due.is(x.status(), 0);
        Due.is(x.many(3), acts + 1);
        Due.yes(x, x.undo(), acts);
        Due.are(seen(x), before);
        Due.is(x.playing(9, false), full().playing(9, false));
        Due.is(x.many(4), full().many(4));
    }

    private static void undoEachAct() {
        Due.of("ACTS: .. CLIPS, PRESSES are as ahead of them");
        undone(x -> x.load(7));
        undone(x -> x.lose(2));
        undone(x -> x.lose(11));
        undone(x -> x.move(1, 5));
        undone(x -> x.mark(3, DUR, 99));
        undone(x -> x.mark(3, Due.OUT, 9));
        undone(x -> x.start(6, PRESS, 0, 3));
        undone(x -> x.start(9, BEHIND, 7, 3));
        undone(x -> x.press(3, 3));
        undone(x -> x.unpress(0));
        NestedClips x = Due.told("par a (leaf b;)");
        Due.is(x.add(SEQ, 0), 2);
        Due.is(x.undo(), 1);
        Due.is(x.many(0), 2);
        Due.is(x.clip(0, 3), 1);
        Due.no(x, x.clip(2, 0), 2);
        Due.is(x.undo(), 0);
        Due.is(x.many(0), 0);
        Due.is(x.many(4), 0);
    }

    private static void undoLeavesTheHead() {
        Due.of("ACTS: .. (the HEAD stays)");
        NestedClips x = full();
        Due.is(x.many(5), 22);
        int events = x.many(8);
        x.undo();
        Due.is(x.many(5), 22);
        Due.is(x.many(8), events);
        Due.is(x.many(9), 20);
        // It stays where a load() has put it, too.
        x = Due.told("leaf a;");
        x.seek(7);
        Calls.load(x, "leaf b dur 3;");
        Due.is(x.many(5), 0);
        Due.is(x.undo(), 1);
        Due.is(x.many(5), 0);
        Due.is(x.many(4), 10);
        x.seek(5);
        Due.is(x.undo(), 0);
        Due.is(x.many(5), 5);
    }

    private static void refusedIsNoAct() {
        Due.of("ACTS: .. with STATUS 0");
        NestedClips x = Due.told("par a (leaf b;)");
        Due.is(x.many(3), 1);
        Due.no(x, x.add(LEAF, 1), 5);
        Due.no(x, x.lose(0), 5);
        Due.no(x, x.move(1, 0), 4);
        Due.no(x, x.mark(1, DUR, 0), 4);
        Due.no(x, x.start(1, WITH, 1, 0), 6);
        Due.no(x, x.press(4, 0), 1);
        Due.no(x, x.unpress(0), 8);
        Due.no(x, Calls.load(x, "leaf"), 9);
        Due.no(x, x.load(1), 1);
        // Nor is what only looks, or moves the HEAD.
        x.seek(3);
        x.play(3);
        x.fit(1, DUR, 5);
        x.slack(1);
        Due.is(x.many(3), 1);
        Due.is(x.undo(), 0);
        Due.is(x.many(0), 0);
        Due.of("undo() itself is no ACT");
        Due.no(x, x.undo(), 8);
    }

    private static void addWithoutMarks() {
        Due.of("Promise 6: a CLIP more of a KIND, without MARKS");
        String marked = " dur 9 rate 4 times 9 cut 9 back hold layer 9 in 9 out 9";
        NestedClips x = Due.told("par a (leaf b; leaf c" + marked + " with b 7; seq d" + marked + " press 2 ())");
        Due.is(x.lose(2), 3);
        Due.is(x.lose(2), 2);
        int[] plain = {0, 0, 0, 0, 1, 1, 0, 0, 0, AT, NONE, 0};
        for (int clip = 2; clip < 4; clip++) {
            Due.yes(x, x.add(LEAF, 0), clip);
            Due.is(x.clip(clip, 0), LEAF);
            Due.is(x.clip(clip, 2), clip - 1);
            for (int what = 3; what <= 12; what++) {
                Due.yes(x, x.clip(clip, what), plain[what - 1]);
            }
            for (int what = 16; what <= 18; what++) {
                Due.yes(x, x.clip(clip, what), 0);
            }
        }
        Due.of("what is gone is seen no more");
        x = Due.told("par a dur 3 (leaf b; leaf c; leaf d;)");
        Due.is(x.top(0), 3);
        Due.is(x.hidden(), 6);
        Due.is(x.lose(3), 3);
        Due.is(x.top(0), 2);
        Due.is(x.share(2, 0), 100);
        Due.is(x.hidden(), 2);
        Due.is(x.playing(0, false), 7);
        Due.is(x.lose(1), 2);
        Due.is(x.hidden(), 0);
        Due.is(x.top(0), 1);
        // The one that goes stood last of all, with the greatest SHARE.
        x = Due.told("par a dur 3 (leaf b in 20 layer 5; leaf c;)");
        Due.is(x.top(0), 2);
        Due.is(x.share(2, 0), 96);
        Due.is(x.lose(2), 2);
        Due.is(x.top(0), 1);
        Due.is(x.dark(0), 96);
    }

    private static NestedClips small() {
        NestedClips x = Due.told("par a (leaf b dur 4; seq c (leaf d at 1; leaf e dur 7;) leaf f with b 2; leaf g press 1;)");
        x.press(1, 3);
        x.press(0, 3);
        return x;
    }

    /** What leaves the SHOW as it is, however much it has tried. */
    private static void tried(NestedClips x, int which) {
        switch (which) {
            case 0: x.fit(1, DUR, 40); break;
            case 1: x.fit(2, TIMES, 900); break;
            case 2: x.fit(1, RATE, 3); break;
            case 3: x.slack(1); break;
            case 4: x.start(0, AT, 0, 999); x.mark(0, DUR, 999); x.mark(0, TIMES, 2); x.undo(); x.undo(); break;
            case 5: x.mark(1, DUR, 99); x.undo(); break;
            case 6: x.add(PAR, 0); x.undo(); break;
            case 7: x.lose(2); x.undo(); break;
            case 8: x.press(3, 3); x.undo(); break;
            case 9: Calls.load(x, "par a (leaf b; leaf c dur 0;)"); break;
            case 10: Calls.load(x, "leaf z dur 8;"); x.undo(); break;
            default: x.start(1, WITH, 4, 999); x.move(1, -1); x.mark(1, DUR, 1000); break;
        }
    }

    private static int act(NestedClips x, int which) {
        switch (which) {
            case 0: return x.add(SEQ, 2);
            case 1: return x.lose(3);
            case 2: return x.move(1, 2);
            case 3: return x.mark(4, RATE, 3);
            case 4: return x.start(6, WITH, 2, 5);
            case 5: return x.press(2, 9);
            case 6: return x.unpress(0);
            case 7: return x.fit(4, DUR, 30);
            case 8: return x.fit(4, TIMES, 25);
            case 9: return x.fit(2, RATE, 9);
            case 10: return x.slack(1);
            default: return x.undo();
        }
    }

    private static void actsBehindOthers() {
        Due.of("With another STATUS than 0 a call .. changes nothing else; what only looks changes nothing");
        for (int one = 0; one <= 11; one++) {
            for (int then = 0; then <= 11; then++) {
                NestedClips x = small();
                tried(x, one);
                NestedClips plain = small();
                int due = act(plain, then);
                Due.is(act(x, then), due);
                Due.is(x.status(), plain.status());
                Due.are(seen(x), seen(plain));
                Due.is(x.many(3), plain.many(3));
                Due.is(x.many(4), plain.many(4));
            }
        }
    }
}
