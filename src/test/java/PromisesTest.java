/** Each promise of the document by its number: ordinary inputs, the edges that it names, wrong inputs. */
public final class PromisesTest {
    private static final int NONE = NestedClips.NONE;
    private static final int LEAF = 0;
    private static final int PAR = 1;
    private static final int SEQ = 2;
    private static final int DUR = 0;
    private static final int RATE = 1;
    private static final int TIMES = 2;
    private static final int CUT = 3;
    private static final int BACK = 4;
    private static final int HOLD = 5;
    private static final int LAYER = 6;
    private static final int IN = 7;
    private static final int OUT = 8;
    private static final int AT = 0;
    private static final int WITH = 1;
    private static final int BEHIND = 2;
    private static final int PRESS = 3;
    private static final int LEAST = Integer.MIN_VALUE;
    private static final int GREATEST = Integer.MAX_VALUE;

    private static int wrong;
    private static int checks;
    private static int promise;

    private PromisesTest() { }

    public static void main(String[] args) {
        newObject();
        statusAndFeed();
        load();
        textFaults();
        faultsAtClosing();
        textTokens();
        add();
        lose();
        move();
        mark();
        start();
        press();
        unpress();
        undo();
        many();
        clip();
        within();
        begin();
        pressed();
        stateLocalPass();
        frozenAndBack();
        begunByPress();
        pressInPasses();
        pressAndOthers();
        playing();
        known();
        strength();
        shareDarkTop();
        seenBrightestHidden();
        pieces();
        reach();
        spans();
        ticksBothWhenFrames();
        next();
        most();
        gaps();
        fit();
        slack();
        seekPlayEvent();
        lastTime();
        System.out.println(wrong == 0 ? checks + " answers are as due" : wrong + " answers are not as due");
        System.exit(wrong == 0 ? 0 : 1);
    }

    private static void is(int got, int want) {
        checks++;
        if (got != want) {
            wrong++;
            StackTraceElement caller = StackWalker.getInstance().walk(frames -> frames
                    .filter(f -> !f.getMethodName().equals("is") && !f.getMethodName().equals("no")
                            && !f.getMethodName().equals("row"))
                    .findFirst().orElseThrow().toStackTraceElement());
            System.out.println("promise " + promise + ", " + caller + ": answered " + got + ", due is " + want);
        }
    }

    /** The call gave NONE, with this STATUS. */
    private static void no(NestedClips x, int got, int why) {
        is(got, NONE);
        is(x.status(), why);
    }

    private static NestedClips told(String text) {
        NestedClips x = new NestedClips();
        Calls.load(x, text);
        is(x.fault(0), 0);
        return x;
    }

    private static void faulty(String text, int kind, int place) {
        NestedClips x = new NestedClips();
        no(x, Calls.load(x, text), 9);
        is(x.fault(0), kind);
        is(x.fault(1), place);
        is(x.many(0), 0);
        is(x.many(3), 0);
        is(x.many(9), 0);
    }

    private static void newObject() {
        promise = 1;
        NestedClips x = new NestedClips();
        is(x.status(), 0);
        for (int what = 0; what <= 9; what++) {
            is(x.many(what), 0);
        }
        no(x, x.undo(), 8);
        no(x, x.load(1), 1);
        is(NestedClips.NONE, -1);
    }

    private static void statusAndFeed() {
        promise = 2;
        NestedClips x = new NestedClips();
        is(x.status(), 0);
        no(x, x.begin(0), 2);
        is(x.feed(1, 2, 3, 4, 5), 20);
        is(x.fault(0), NONE);
        is(x.status(), 2);
        is(x.status(), 2);
        is(x.gaps(), 0);
        is(x.status(), 0);
        promise = 3;
        for (int many = 40; many <= 600; many += 20) {
            is(x.feed(LEAST, GREATEST, -1, 0, 7), many);
        }
        is(x.feed(0, 0, 0, 0, 0), NONE);
        is(x.status(), 0);
        is(x.many(9), 600);
        no(x, x.load(601), 1);
        is(x.many(9), 600);
        no(x, x.load(600), 9);
        is(x.fault(0), 1);
        is(x.fault(1), 0);
        is(x.many(9), 0);
        x.feed(0x6c656166, 0x20612064, 0x75722037, 0x3b202020, 0x20202020);
        is(x.load(13), 1);
        is(x.clip(0, 4), 7);
    }

    private static void load() {
        promise = 4;
        NestedClips x = told("par a (leaf b dur 7; seq c (leaf d; leaf e;))");
        is(x.many(0), 5);
        is(x.many(4), 20);
        is(x.status(), 0);
        x.press(1, 3);
        is(x.seek(5), 1 | 2 | 4 | 8);
        is(x.play(6), 3);
        is(Calls.load(x, "leaf only ;"), 1);
        is(x.many(2), 0);
        is(x.many(5), 0);
        is(x.many(8), 0);
        is(x.many(9), 0);
        is(x.many(3), 3);
        x.press(2, 2);
        x.seek(4);
        x.play(3);
        no(x, Calls.load(x, "leaf"), 9);
        is(x.many(0), 1);
        is(x.many(2), 1);
        is(x.many(5), 7);
        is(x.many(3), 4);
        is(x.many(9), 0);
        promise = 5;
        is(x.fault(0), 2);
        is(x.fault(1), 4);
        is(x.fault(2), NONE);
        is(x.fault(-1), NONE);
        x.feed(0, 0, 0, 0, 0);
        no(x, x.load(21), 1);
        no(x, x.load(-1), 1);
        no(x, x.load(LEAST), 1);
        is(x.fault(0), 2);
        is(x.many(9), 20);
        no(x, x.load(0), 9);
        is(x.fault(1), 0);
        Calls.load(x, "leaf a;");
        is(x.fault(0), 0);
        is(x.fault(1), NONE);
        is(new NestedClips().fault(0), NONE);
        is(new NestedClips().fault(1), NONE);
    }

    private static void partOf(String text, int n, int kind, int place) {
        NestedClips x = new NestedClips();
        x.feed(Calls.fed(text, 0)[0], Calls.fed(text, 0)[1], Calls.fed(text, 0)[2], Calls.fed(text, 0)[3], 0);
        is(x.load(n), kind == 0 ? 1 : NONE);
        is(x.fault(0), kind);
        is(x.fault(1), place);
    }

    private static void textFaults() {
        promise = 4;
        faulty("", 2, 0);
        faulty(" \n ", 2, 3);
        faulty("Leaf a;", 1, 0);
        faulty("leaf a\t;", 1, 6);
        faulty("leaf a dur 12345 ;", 1, 11);
        faulty("leaf 12345 ;", 1, 5);
        faulty("leaf a ;!", 1, 8);
        faulty("leaf \u00e9 ;", 1, 5);
        faulty("a ;", 2, 0);
        faulty("12 ;", 2, 0);
        faulty("leaf 12 ;", 2, 5);
        faulty("leaf dur ;", 2, 5);
        faulty("leaf abcdefghi ;", 2, 5);
        faulty("abcdefghi a ;", 2, 0);
        faulty("leaf a abcdefghi ;", 2, 7);
        faulty("leaf a b ;", 2, 7);
        faulty("leaf a 5 ;", 2, 7);
        faulty("leaf a leaf ;", 2, 7);
        faulty("leaf a dur ;", 2, 11);
        faulty("leaf a dur hold ;", 2, 11);
        faulty("leaf a dur 5  ", 2, 14);
        faulty("leaf a (", 2, 7);
        faulty("par a ;", 2, 6);
        faulty("par a (", 2, 7);
        faulty("par a (;", 2, 7);
        faulty("par a ( ) )", 2, 10);
        faulty("par a ( ) leaf b ;", 2, 10);
        faulty("par a (leaf b with 3 ;)", 2, 19);
        faulty("par a (leaf b with at 3 ;)", 2, 19);
        faulty("par a (leaf b with abcdefghi 3 ;)", 2, 19);
        faulty("par a (leaf b with b ;)", 2, 21);
        faulty("par a (leaf b; seq c (leaf b;))", 3, 27);
        faulty("par a (leaf a;", 3, 12);
        faulty("leaf a dur 0 ;", 4, 11);
        faulty("leaf a dur 1000 ;", 4, 11);
        faulty("leaf a rate 0 ;", 4, 12);
        faulty("leaf a rate 5 ;", 4, 12);
        faulty("leaf a times 0 ;", 4, 13);
        faulty("leaf a times 10 ;", 4, 13);
        faulty("leaf a cut 0 ;", 4, 11);
        faulty("leaf a cut 1000 ;", 4, 11);
        faulty("leaf a layer 10 ;", 4, 13);
        faulty("leaf a in 21 ;", 4, 10);
        faulty("leaf a out 21 ;", 4, 11);
        faulty("leaf a at 1000 ;", 4, 10);
        faulty("par a (leaf b with c 1000 ;)", 4, 21);
        faulty("par a (leaf b behind c 1000 ;)", 4, 23);
        faulty("par a (leaf b press 4 ;)", 4, 20);
        faulty("leaf a back back ;", 5, 12);
        faulty("leaf a hold dur 5 hold ;", 5, 18);
        faulty("leaf a at 0 at 0 ;", 5, 12);
        faulty("par a (leaf b at 1 press 0 ;)", 5, 19);
        faulty("par a (leaf b press 0 with c 1 ;)", 5, 22);
        faulty("leaf a press 1 ;", 5, 7);
        faulty("leaf a with b c ;", 5, 7);
        faulty("seq a (leaf b behind c 1 ;)", 5, 14);
        faulty("par a (seq b (leaf c with b 1 ;))", 5, 21);
        faulty("par a(par b(par c(par d(par e(leaf f;)))))", 6, 30);
        faulty("par a(par b(par c(par d(par e(x", 2, 30);
        faulty("par a(leaf b;leaf c;leaf d;leaf e;leaf f;leaf g;leaf h;leaf i;leaf j;leaf k;leaf l;par", 6, 83);
        faulty("leaf a dur 999 times 3 ;", 8, 24);
        faulty("leaf a at 999 dur 999 times 9 cut 999 in 1 ; ! ", 1, 45);
        faulty("seq a (leaf b dur 999; leaf c dur 999; leaf d dur 2;) \n", 8, 55);
    }

    private static void faultsAtClosing() {
        promise = 4;
        faulty("par a (leaf b with c 1;)", 3, 23);
        faulty("par a (leaf b with b 1;)", 3, 23);
        faulty("par a (leaf b behind a 1;)", 3, 25);
        faulty("par a (leaf b with d 1; par c (leaf d;))", 3, 39);
        faulty("par a (leaf b; par c (leaf d with b 1;))", 3, 38);
        faulty("par a (leaf b with c 1; leaf c with b 1;)", 7, 40);
        faulty("par a (leaf e; leaf b with c 1; leaf c behind d 1; leaf d with b 0;)", 7, 67);
        faulty("par a (leaf b with c 1; leaf c with b 1; leaf d with x 1;)", 3, 57);
        faulty("par a (leaf b with c 1; leaf c with b 1; leaf d with x 1000;)", 4, 55);
        faulty("par a (leaf z with b 1; leaf b with c 1; leaf c with b 1;", 2, 57);
        is(told("par a (leaf b with c 1; leaf c with d 1; leaf d;)").begin(1), 2);
        is(told("par a (par b (leaf c with d 1; leaf d;) par e (leaf f with g 1; leaf g press 0;))").many(6), 2);
        is(told("seq a (leaf b dur 999; leaf c dur 999; leaf d dur 1;)").many(4), 1999);
        is(told("par a dur 5 (leaf b dur 999 times 9;)").many(4), 5);
    }

    private static void textTokens() {
        promise = 4;
        NestedClips x = told("\n par\na(leaf b dur0007rate2times 3cut9back hold layer9in20out0at999;)\n\n");
        int[] due = {LEAF, 0, 0, 0, 7, 2, 3, 9, 1, 1, AT, NONE, 999, 7, 9, 0, 9, 20, 0};
        for (int what = 0; what <= 18; what++) {
            is(x.clip(1, what), due[what]);
            is(x.status(), 0);
        }
        x = told("par abcdefgh(leaf b behind leafx 12;leaf leafx press 3;seq dura(leaf p;)leaf q with dura 0;)");
        is(x.many(0), 6);
        is(x.clip(1, 10), BEHIND);
        is(x.clip(1, 11), 2);
        is(x.clip(1, 12), 12);
        is(x.clip(2, 10), PRESS);
        is(x.clip(2, 12), 3);
        is(x.clip(5, 10), WITH);
        is(x.clip(5, 11), 3);
        is(x.clip(5, 2), 3);
        is(told("par a(par b(par c(par d(leaf e;seq f()))))").many(0), 6);
        is(told("par b(leaf bb;leaf bbb;leaf a;leaf aa;leaf aaa;leaf aaaaaaaa;leaf bbbbbbbb;leaf zzzzzzzz;)").many(0), 9);
        is(told("par p(leaf ab with b 1;leaf b;)").clip(1, 11), 2);
        // Only the first n bytes count, whatever stands behind them.
        partOf("leaf a;leaf b;", 7, 0, NONE);
        partOf("leaf a ;   x", 10, 0, NONE);
        partOf("leaf abc;", 6, 2, 6);
        partOf("leaf a dur 55;", 12, 2, 12);
        partOf("leaf a dur 55555;", 13, 2, 13);
        partOf("leaf a dur 5  ;", 13, 2, 13);
        partOf("leaf a dur 5;", 11, 2, 11);
        is(told("seq a(leaf b;leaf c;leaf d;leaf e;leaf f;leaf g;leaf h;leaf i;leaf j;leaf k;leaf l;)").many(4), 110);
    }

    private static void add() {
        promise = 6;
        NestedClips x = new NestedClips();
        no(x, x.add(3, NONE), 1);
        no(x, x.add(-1, 7), 1);
        no(x, x.add(LEAF, 0), 2);
        no(x, x.add(LEAF, -2), 2);
        is(x.add(SEQ, NONE), 0);
        is(x.status(), 0);
        no(x, x.add(LEAF, NONE), 2);
        no(x, x.add(LEAF, 1), 2);
        no(x, x.add(LEAF, GREATEST), 2);
        is(x.add(LEAF, 0), 1);
        is(x.add(PAR, 0), 2);
        is(x.clip(2, 2), 1);
        int[] plain = {PAR, 0, 1, 0, 0, 1, 1, 0, 0, 0, AT, NONE, 0, 0, 0, 0, 0, 0, 0};
        for (int what = 0; what <= 18; what++) {
            is(x.clip(2, what), plain[what]);
        }
        no(x, x.add(LEAF, 1), 5);
        is(x.add(PAR, 2), 3);
        is(x.add(PAR, 3), 4);
        is(x.add(LEAF, 4), 5);
        is(x.add(SEQ, 4), 6);
        no(x, x.add(LEAF, 5), 3);
        no(x, x.add(LEAF, 6), 3);
        is(x.mark(1, DUR, 999), 0);
        is(x.start(1, AT, 0, 981), AT);
        is(x.many(4), 1990);
        no(x, x.add(LEAF, 0), 7);
        is(x.many(0), 7);
        is(x.add(SEQ, 0), 7);
        x.start(1, AT, 0, 0);
        for (int clip = 8; clip < 12; clip++) {
            is(x.add(LEAF, 0), clip);
        }
        no(x, x.add(LEAF, 0), 3);
        no(x, x.add(LEAF, 1), 3);
        no(x, x.add(LEAF, 12), 2);
        no(x, x.add(9, 12), 1);
        is(x.many(0), 12);
    }

    private static void lose() {
        promise = 7;
        NestedClips x = told("par a (seq b (leaf c; leaf d dur 3;) leaf e at 4; leaf f with g 2; par g (leaf h;))");
        no(x, x.lose(8), 2);
        no(x, x.lose(-1), 2);
        no(x, x.lose(0), 5);
        no(x, x.lose(6), 6);
        is(x.many(0), 8);
        is(x.lose(1), 5);
        is(x.clip(1, 12), 4);
        is(x.clip(1, 2), 0);
        is(x.clip(2, 2), 1);
        is(x.clip(2, 11), 3);
        is(x.clip(3, 2), 2);
        is(x.clip(4, 1), 3);
        is(x.within(0, 0), 1);
        is(x.within(3, 0), 4);
        is(x.lose(2), 4);
        is(x.lose(2), 2);
        is(x.lose(1), 1);
        is(x.lose(0), 0);
        no(x, x.lose(0), 2);
        x = new NestedClips();
        x.add(PAR, NONE);
        x.add(PAR, 0);
        x.add(PAR, 0);
        x.add(LEAF, 1);
        x.add(LEAF, 2);
        x.add(LEAF, 1);
        x.mark(4, DUR, 33);
        is(x.lose(1), 3);
        is(x.clip(1, 3), 1);
        is(x.clip(2, 1), 1);
        is(x.clip(2, 4), 33);
        x.start(2, PRESS, 0, 1);
        is(x.lose(2), 2);
    }

    private static void move() {
        promise = 8;
        NestedClips x = told("seq a (leaf b dur 1; leaf c dur 2; leaf d dur 4; leaf e dur 8;)");
        no(x, x.move(1, -1), 1);
        no(x, x.move(7, -1), 1);
        no(x, x.move(1, 4), 1);
        no(x, x.move(5, 0), 2);
        no(x, x.move(5, 400), 2);
        no(x, x.move(-1, 0), 2);
        no(x, x.move(1, 0), 4);
        no(x, x.move(0, 1), 5);
        no(x, x.move(0, GREATEST), 5);
        is(x.move(1, 2), 0);
        int[] places = {2, 0, 1, 3};
        int[] begins = {6, 0, 2, 7};
        for (int clip = 1; clip <= 4; clip++) {
            is(x.clip(clip, 2), places[clip - 1]);
            is(x.within(0, places[clip - 1]), clip);
            is(x.begin(clip), begins[clip - 1]);
        }
        is(x.move(4, 0), 3);
        is(x.begin(1), 14);
        is(x.begin(4), 0);
        is(x.add(LEAF, 0), 5);
        is(x.clip(5, 2), 4);
        is(x.undo(), 3);
        is(x.undo(), 2);
        is(x.begin(4), 7);
        is(x.many(4), 15);
    }

    private static void mark() {
        promise = 9;
        NestedClips x = new NestedClips();
        x.add(PAR, NONE);
        x.add(LEAF, 0);
        int[] least = {0, 1, 1, 0, 0, 0, 0, 0, 0};
        int[] most = {999, 4, 9, 999, 1, 1, 9, 20, 20};
        for (int what = 0; what <= 8; what++) {
            int at = what < 6 ? what + 4 : what + 10;
            is(x.mark(0, DUR, 999) == NONE ? x.status() : 0, what == 0 ? 0 : 4);
            no(x, x.mark(1, what, least[what] - 1), 1);
            no(x, x.mark(1, what, most[what] + 1), 1);
            no(x, x.mark(9, what, most[what] + 1), 1);
            no(x, x.mark(9, what, most[what]), 2);
            no(x, x.mark(1, what, least[what]), 4);
            is(x.mark(1, what, most[what]), least[what]);
            is(x.clip(1, at), most[what]);
            no(x, x.mark(1, what, most[what]), 4);
            is(x.mark(1, what, least[what]), most[what]);
            is(x.clip(1, at), least[what]);
        }
        no(x, x.mark(0, 9, 0), 1);
        no(x, x.mark(0, -1, 0), 1);
        no(x, x.mark(-1, 0, 0), 2);
        no(x, x.mark(0, LEAST, GREATEST), 1);
        no(x, x.mark(0, TIMES, 3), 7);
        is(x.clip(0, 6), 1);
        is(x.mark(0, TIMES, 2), 1);
        is(x.many(4), 1998);
        no(x, x.mark(0, DUR, 1000), 1);
        is(x.mark(0, RATE, 3), 1);
        is(x.many(4), 666);
        is(x.mark(0, RATE, 4), 3);
        is(x.many(4), 500);
        is(x.mark(0, CUT, 499), 0);
        is(x.many(4), 499);
        is(x.mark(0, CUT, 501), 499);
        is(x.many(4), 500);
        is(x.mark(0, LAYER, 9), 0);
    }

    private static void start() {
        promise = 10;
        NestedClips x = told("par a (leaf b; leaf c; seq d (leaf e; leaf f;) par g (leaf h;))");
        no(x, x.start(1, -1, 2, 0), 1);
        no(x, x.start(1, 4, 2, 0), 1);
        no(x, x.start(1, AT, 2, 1000), 1);
        no(x, x.start(1, WITH, 2, -1), 1);
        no(x, x.start(1, BEHIND, 2, 1000), 1);
        no(x, x.start(1, PRESS, 2, 4), 1);
        no(x, x.start(99, PRESS, 2, 4), 1);
        no(x, x.start(99, AT, 2, 4), 2);
        no(x, x.start(-1, AT, 2, 4), 2);
        no(x, x.start(1, WITH, 99, 4), 2);
        no(x, x.start(1, BEHIND, -1, 4), 2);
        no(x, x.start(1, AT, 99, 0), 4);
        no(x, x.start(0, WITH, 1, 0), 5);
        no(x, x.start(0, PRESS, 1, 0), 5);
        no(x, x.start(0, WITH, 0, 0), 5);
        no(x, x.start(4, WITH, 5, 0), 5);
        no(x, x.start(4, PRESS, 5, 0), 5);
        no(x, x.start(4, WITH, 4, 0), 5);
        no(x, x.start(1, WITH, 0, 0), 5);
        no(x, x.start(1, WITH, 4, 0), 5);
        no(x, x.start(1, BEHIND, 7, 0), 5);
        no(x, x.start(7, BEHIND, 1, 0), 5);
        no(x, x.start(1, WITH, 1, 0), 6);
        no(x, x.start(1, BEHIND, 1, 5), 6);
        is(x.start(1, WITH, 2, 5), AT);
        no(x, x.start(1, WITH, 2, 5), 4);
        no(x, x.start(2, BEHIND, 1, 5), 6);
        is(x.start(2, BEHIND, 3, 7), AT);
        no(x, x.start(3, WITH, 1, 5), 6);
        is(x.begin(2), 27);
        is(x.begin(1), 32);
        is(x.many(4), 42);
        is(x.start(1, WITH, 2, 6), WITH);
        is(x.start(1, BEHIND, 2, 6), WITH);
        is(x.begin(1), 43);
        is(x.start(1, PRESS, 99, 3), BEHIND);
        is(x.clip(1, 11), NONE);
        is(x.clip(1, 12), 3);
        no(x, x.start(1, PRESS, 2, 3), 4);
        is(x.start(1, AT, 99, 999), PRESS);
        is(x.many(4), 1009);
        is(x.start(0, AT, 0, 990), AT);
        is(x.many(4), 1999);
        no(x, x.start(0, AT, 0, 991), 7);
        no(x, x.start(2, BEHIND, 1, 1), 7);
        is(x.start(5, AT, 0, 3), AT);
        is(x.begin(5), 13);
    }

    private static void press() {
        promise = 11;
        NestedClips x = new NestedClips();
        no(x, x.press(-1, 0), 1);
        no(x, x.press(4, 0), 1);
        no(x, x.press(0, -1), 1);
        no(x, x.press(0, 2000), 1);
        is(x.press(0, 0), 1);
        is(x.press(3, 1999), 2);
        no(x, x.press(0, 0), 4);
        is(x.press(1, 0), 3);
        is(x.press(0, 1), 4);
        is(x.press(2, 7), 5);
        is(x.press(2, 6), 6);
        no(x, x.press(2, 6), 3);
        no(x, x.press(2, 5), 3);
        no(x, x.press(2, 2000), 1);
        is(x.many(2), 6);
        is(x.many(3), 6);
    }

    private static void unpress() {
        promise = 12;
        NestedClips x = new NestedClips();
        no(x, x.unpress(0), 8);
        no(x, x.unpress(-1), 1);
        x.press(0, 9);
        x.press(1, 5);
        x.press(2, 7);
        no(x, x.unpress(3), 8);
        no(x, x.unpress(LEAST), 1);
        is(x.unpress(1), 2);
        is(x.pressed(0, 0), 0);
        is(x.pressed(1, 0), 2);
        is(x.pressed(1, 1), 7);
        is(x.press(1, 5), 3);
        is(x.pressed(2, 0), 1);
        is(x.unpress(2), 2);
        is(x.undo(), 5);
        is(x.many(2), 3);
    }

    private static void undo() {
        promise = 13;
        NestedClips x = new NestedClips();
        no(x, x.undo(), 8);
        x.add(PAR, NONE);
        is(x.undo(), 0);
        is(x.many(0), 0);
        x.add(PAR, NONE);
        x.add(LEAF, 0);
        x.add(LEAF, 0);
        x.mark(1, DUR, 20);
        x.start(2, WITH, 1, 3);
        x.move(2, 0);
        x.press(1, 4);
        x.seek(9);
        x.unpress(0);
        is(x.many(3), 8);
        no(x, x.mark(1, DUR, 20), 4);
        is(x.many(3), 8);
        x.lose(2);
        is(x.many(3), 8);
        Calls.load(x, "leaf q hold;");
        is(x.many(3), 8);
        x.seek(11);
        is(x.undo(), 7);
        is(x.many(0), 2);
        is(x.many(5), 11);
        is(x.undo(), 6);
        is(x.many(0), 3);
        is(x.clip(2, 10), WITH);
        is(x.undo(), 5);
        is(x.many(2), 1);
        is(x.pressed(0, 1), 4);
        is(x.undo(), 4);
        is(x.many(2), 0);
        is(x.clip(2, 2), 0);
        is(x.undo(), 3);
        is(x.clip(2, 2), 1);
        is(x.begin(2), 3);
        is(x.undo(), 2);
        is(x.begin(2), 0);
        is(x.clip(2, 11), NONE);
        is(x.undo(), 1);
        is(x.clip(1, 4), 0);
        is(x.undo(), 0);
        is(x.many(0), 2);
        no(x, x.undo(), 8);
        is(x.many(5), 11);
        is(x.add(LEAF, 0), 2);
        is(x.undo(), 0);
    }

    private static void many() {
        promise = 14;
        NestedClips x = told("par a at 3 (leaf b dur 4; leaf c press 1; leaf d behind c 2; seq e (leaf f dur 6;))");
        x.press(1, 5);
        x.feed(0, 0, 0, 0, 0);
        x.seek(2);
        x.play(3);
        // CHANGES: at 3 all but the OPEN ones begin, at 5 c does by the PRESS, at 7 b is over, at 9 all is.
        int[] due = {6, 4, 1, 2, 9, 5, 2, 4, 5, 20};
        for (int what = 0; what <= 9; what++) {
            is(x.many(what), due[what]);
        }
        no(x, x.many(10), 1);
        no(x, x.many(-1), 1);
        no(x, x.many(LEAST), 1);
        x = told("leaf a;");
        is(x.many(7), 1);
        x.mark(0, HOLD, 1);
        is(x.many(7), 1);
        x.start(0, AT, 0, 1);
        is(x.many(7), 2);
        x.mark(0, CUT, 1);
        is(x.many(7), 2);
        x = told("par a (leaf b; leaf c;)");
        is(x.many(7), 1);
        is(x.seek(1990), 0);
        is(x.play(9), 0);
    }

    private static void clip() {
        promise = 15;
        NestedClips x = told("par a (seq b (leaf c; leaf d cut 3;) leaf e dur 7 rate 3 times 2; leaf f with g 4;"
                + " par g press 2 (leaf h;))");
        no(x, x.clip(0, 19), 1);
        no(x, x.clip(0, -1), 1);
        no(x, x.clip(8, 0), 2);
        no(x, x.clip(-1, 0), 2);
        no(x, x.clip(99, 99), 1);
        is(x.clip(0, 1), NONE);
        is(x.status(), 0);
        is(x.clip(0, 3), 4);
        is(x.clip(1, 0), SEQ);
        is(x.clip(3, 1), 1);
        is(x.clip(3, 2), 1);
        is(x.clip(3, 13), 10);
        is(x.clip(3, 14), 3);
        is(x.clip(1, 13), 13);
        is(x.clip(4, 13), 7);
        is(x.clip(4, 14), 5);
        is(x.clip(4, 11), NONE);
        is(x.status(), 0);
        is(x.clip(5, 15), 1);
        is(x.clip(6, 15), 1);
        is(x.clip(7, 15), 0);
        is(x.clip(4, 15), 0);
        is(x.clip(6, 13), 10);
        is(x.clip(0, 13), 13);
        x = told("par a (leaf b press 0; leaf c with b 5;)");
        is(x.clip(0, 13), 0);
        is(x.clip(0, 14), 0);
        x = told("seq a ()");
        is(x.clip(0, 13), 0);
        x.mark(0, DUR, 4);
        is(x.clip(0, 13), 4);
    }

    private static void within() {
        promise = 16;
        NestedClips x = told("par a (seq b (leaf c;) leaf d;)");
        is(x.within(0, 0), 1);
        is(x.within(0, 1), 3);
        is(x.within(1, 0), 2);
        no(x, x.within(0, 2), 8);
        no(x, x.within(2, 0), 8);
        no(x, x.within(4, 0), 2);
        no(x, x.within(-1, 0), 2);
        no(x, x.within(4, -1), 1);
        no(x, x.within(0, GREATEST), 8);
    }

    private static void begin() {
        promise = 17;
        NestedClips x = told("par a at 5 (leaf b at 3; seq c (leaf d at 2; leaf e at 1 dur 4; leaf f;)"
                + " leaf g with b 6; leaf h behind g 1; leaf i press 0; leaf j behind i 0;)");
        is(x.begin(0), 5);
        is(x.begin(1), 3);
        is(x.begin(3), 2);
        is(x.begin(4), 13);
        is(x.begin(5), 17);
        is(x.begin(6), 9);
        is(x.begin(7), 20);
        no(x, x.begin(8), 8);
        no(x, x.begin(9), 8);
        no(x, x.begin(10), 2);
        no(x, x.begin(-1), 2);
        is(x.many(4), 35);
    }

    private static void pressed() {
        promise = 18;
        NestedClips x = new NestedClips();
        x.press(3, 17);
        x.press(1, 5);
        is(x.pressed(0, 0), 3);
        is(x.pressed(0, 1), 17);
        is(x.pressed(1, 0), 1);
        is(x.pressed(1, 1), 5);
        no(x, x.pressed(2, 0), 8);
        no(x, x.pressed(2, 2), 1);
        no(x, x.pressed(0, 2), 1);
        no(x, x.pressed(0, -1), 1);
        no(x, x.pressed(-1, 0), 1);
    }

    /** STATE, LOCAL and PASS of a CLIP at the TIMES from 0 on; a dot is none. */
    private static void row(NestedClips x, int clip, String states, String locals, String passes) {
        for (int time = 0; time < states.length(); time++) {
            promise = 19;
            is(x.state(clip, time), states.charAt(time) - '0');
            promise = 20;
            is(x.local(clip, time), locals.charAt(time) == '.' ? NONE : locals.charAt(time) - '0');
            is(x.status(), locals.charAt(time) == '.' ? 8 : 0);
            promise = 21;
            is(x.pass(clip, time), passes.charAt(time) == '.' ? NONE : passes.charAt(time) - '0');
            is(x.status(), passes.charAt(time) == '.' ? 8 : 0);
        }
    }

    private static void stateLocalPass() {
        NestedClips x = told("par a at 2 (leaf b dur 3 times 2; leaf c dur 4 rate 2 times 3 at 1 back; seq d ())");
        row(x, 0, "112222222444", "..0123456...", "..0000000...");
        row(x, 1, "002222224000", "..012012....", "..000111....");
        row(x, 2, "001222222000", "...313131...", "...001122...");
        row(x, 3, "004444444000", "............", "............");
        promise = 19;
        no(x, x.state(0, -1), 1);
        no(x, x.state(0, 2000), 1);
        no(x, x.state(9, 2000), 1);
        no(x, x.state(4, 0), 2);
        no(x, x.state(-1, 0), 2);
        is(x.state(0, 1999), 4);
        promise = 20;
        no(x, x.local(0, 2000), 1);
        no(x, x.local(4, 3), 2);
        no(x, x.local(0, 0), 8);
        promise = 21;
        no(x, x.pass(0, -1), 1);
        no(x, x.pass(4, 3), 2);
        no(x, x.pass(3, 3), 8);
    }

    private static void frozenAndBack() {
        NestedClips x = told("seq a hold (leaf b dur 2 hold; par c dur 4 hold back (leaf d dur 3 at 1;) leaf e dur 1;)");
        row(x, 0, "222222233", "012345666", "000000000");
        row(x, 1, "223333333", "011111111", "000000000");
        row(x, 2, "112222333", "..3210000", "..0000000");
        row(x, 3, "002221111", "..210....", "..000....");
        row(x, 4, "111111222", "......000", "......000");
        x = told("leaf a dur 3 rate 2 times 3 hold;");
        row(x, 0, "2222233", "0210222", "0012222");
        x.mark(0, CUT, 2);
        row(x, 0, "2233", "0222", "0000");
        x = told("par a dur 3 (seq b hold () leaf c cut 1 hold;)");
        row(x, 1, "4440", "....", "....");
        row(x, 2, "2330", "000.", "000.");
    }

    private static void begunByPress() {
        NestedClips x = told("par a dur 12 hold (leaf b dur 3 press 1 hold; leaf c dur 2 behind b 1; leaf d dur 1 with b 4;)");
        row(x, 1, "1111111111111", ".............", ".............");
        x.press(0, 2);
        row(x, 1, "1111111111111", ".............", ".............");
        x.press(1, 6);
        row(x, 1, "1111112223333", "......0122222", "......0000000");
        row(x, 2, "1111111111222", "..........011", "..........000");
        row(x, 3, "1111111111244", "..........0..", "..........0..");
        // An earlier PRESS comes first, though it was told later.
        x.press(1, 3);
        row(x, 1, "1112223333333", "...0122222222", "...0000000000");
        row(x, 2, "1111111224444", ".......01....", ".......00....");
        x.unpress(2);
        x.unpress(1);
        // FROZEN is not to PLAY: a PRESS then begins nothing.
        x.press(1, 12);
        row(x, 1, "11111111111111", "..............", "..............");
        x.unpress(1);
        x.press(1, 11);
        row(x, 1, "11111111111222", "...........000", "...........000");
        is(x.state(1, 1999), 2);
        x.mark(0, HOLD, 0);
        row(x, 1, "11111111111200", "...........0..", "...........0..");
    }

    private static void pressInPasses() {
        NestedClips x = told("par a dur 4 times 3 (leaf b dur 2 press 0;)");
        x.press(0, 5);
        row(x, 1, "1111122411110", ".....01......", ".....00......");
        x.press(0, 2);
        row(x, 1, "1122122411110", "..01.01......", "..00.00......");
        x.press(0, 6);
        row(x, 1, "1122122411110", "..01.01......", "..00.00......");
        x.press(0, 11);
        row(x, 1, "1122122411120", "..01.01....0.", "..00.00....0.");
        x = told("seq a dur 6 times 2 (par b at 1 dur 2 times 2 (leaf c dur 1 press 0;))");
        x.press(0, 2);
        x.press(0, 9);
        row(x, 2, "0121100112400", "..0......0...", "..0......0...");
        x = told("par a dur 6 back (leaf b dur 3 press 0;)");
        x.press(0, 2);
        row(x, 1, "1121110", "..0....", "..0....");
    }

    private static void pressAndOthers() {
        // Two PRESSES at one TIME: the PAR begins by one, the LEAF within it by the other.
        NestedClips x = told("par a dur 9 (par b dur 6 press 0 (leaf c dur 2 press 1;))");
        x.press(1, 2);
        x.press(0, 2);
        row(x, 1, "1122222240", "..012345..", "..000000..");
        row(x, 2, "0022444400", "..01......", "..00......");
        x.undo();
        x.undo();
        x.press(0, 2);
        x.press(1, 2);
        row(x, 2, "0022444400", "..01......", "..00......");
        x.unpress(1);
        x.press(1, 1);
        row(x, 2, "0011111100", "..........", "..........");
        x.press(1, 4);
        row(x, 2, "0011224400", "....01....", "....00....");
        x.start(1, AT, 0, 1);
        row(x, 2, "0224444000", ".01.......", ".00.......");
    }

    private static void playing() {
        promise = 22;
        NestedClips x = told("seq a hold (leaf b dur 2 hold; leaf c dur 2;)");
        is(x.playing(0, false), 1 | 2);
        is(x.playing(0, true), 0);
        is(x.playing(2, false), 1 | 4);
        is(x.playing(2, true), 2);
        is(x.playing(1999, true), 1 | 2);
        is(x.playing(1999, false), 4);
        no(x, x.playing(2000, true), 1);
        no(x, x.playing(-1, false), 1);
    }

    private static void known() {
        promise = 23;
        NestedClips x = told("par a at 1 dur 8 (leaf b at 3; leaf c press 2; leaf d behind c 1; leaf e with c 2;)");
        x.press(2, 4);
        is(x.known(0, 0), 1);
        no(x, x.known(1, 0), 8);
        is(x.known(1, 1), 3);
        no(x, x.known(2, 3), 8);
        no(x, x.known(3, 3), 8);
        is(x.known(2, 4), 3);
        is(x.known(3, 4), 14);
        is(x.known(4, 8), 5);
        no(x, x.known(2, 9), 8);
        is(x.known(0, 1999), 1);
        no(x, x.known(0, 2000), 1);
        no(x, x.known(5, 2000), 1);
        no(x, x.known(5, 0), 2);
    }

    private static void strength() {
        promise = 24;
        NestedClips x = told("par a in 2 out 1 dur 6 hold (leaf b dur 4 in 3 at 1; leaf c dur 6 out 20 back;)");
        int[] outer = {33, 66, 100, 100, 100, 50, 50};
        int[] faded = {0, 16, 50, 75, 100, 0, 0};
        int[] weak = {9, 15, 19, 14, 9, 2, 2};
        for (int time = 0; time < 7; time++) {
            is(x.strength(0, time), outer[time]);
            is(x.strength(1, time), faded[time]);
            is(x.strength(2, time), weak[time]);
        }
        no(x, x.strength(0, 2000), 1);
        no(x, x.strength(3, -1), 1);
        no(x, x.strength(3, 0), 2);
        is(x.mark(1, IN, 20), 3);
        is(x.strength(1, 2), 9);
        is(x.mark(0, OUT, 0), 1);
        is(x.strength(0, 5), 100);
    }

    private static void shareDarkTop() {
        NestedClips x = told("par a (leaf b dur 3 layer 1 in 1; leaf c dur 5 out 3; leaf d dur 4 layer 1 out 3 in 1;)");
        int[][] strengths = {{50, 100, 50}, {100, 100, 75}, {100, 75, 50}, {0, 50, 25}, {0, 25, 0}, {0, 0, 0}};
        for (int time = 0; time < strengths.length; time++) {
            promise = 24;
            for (int leaf = 1; leaf <= 3; leaf++) {
                is(x.strength(leaf, time), strengths[time][leaf - 1]);
            }
            promise = 25;
            int third = strengths[time][2];
            int first = (100 - third) * strengths[time][0] / 100;
            int second = (100 - third - first) * strengths[time][1] / 100;
            is(x.share(3, time), third);
            is(x.share(1, time), first);
            is(x.share(2, time), second);
            promise = 26;
            is(x.dark(time), 100 - first - second - third);
        }
        promise = 27;
        int[] tops = {3, 3, 3, 2, 2, NONE};
        for (int time = 0; time < tops.length; time++) {
            is(x.top(time), tops[time]);
            is(x.status(), tops[time] == NONE ? 8 : 0);
        }
        no(x, x.top(2000), 1);
        no(x, x.top(-1), 1);
        promise = 26;
        no(x, x.dark(-1), 1);
        no(x, x.dark(2000), 1);
        is(x.dark(1999), 100);
        promise = 25;
        no(x, x.share(0, 0), 5);
        no(x, x.share(4, 0), 2);
        no(x, x.share(0, 2000), 1);
        x.mark(2, LAYER, 2);
        is(x.share(2, 0), 100);
        is(x.share(3, 0), 0);
        promise = 27;
        is(x.top(0), 2);
        x.mark(2, LAYER, 0);
        x.mark(1, IN, 0);
        x.mark(1, LAYER, 0);
        is(x.share(3, 2), 50);
        is(x.share(2, 2), 37);
        is(x.share(1, 2), 13);
        // A LAYER of what is around the LEAVES changes nothing.
        x.mark(0, LAYER, 5);
        is(x.share(3, 2), 50);
    }

    private static void seenBrightestHidden() {
        promise = 28;
        NestedClips x = told("par a hold (leaf b dur 9; leaf c dur 4 layer 2 in 4 out 1; leaf d dur 9; leaf e dur 2 press 0;)");
        is(x.seen(1), 0);
        is(x.seen(2), 4);
        is(x.seen(3), 2000);
        is(x.seen(4), 0);
        no(x, x.seen(0), 5);
        no(x, x.seen(5), 2);
        no(x, x.seen(-1), 2);
        promise = 29;
        is(x.brightest(2), 2);
        is(x.brightest(3), 4);
        no(x, x.brightest(1), 8);
        no(x, x.brightest(4), 8);
        no(x, x.brightest(0), 5);
        no(x, x.brightest(9), 2);
        promise = 30;
        is(x.hidden(), 2);
        is(x.status(), 0);
        x.start(3, AT, 0, 1);
        is(x.hidden(), 0);
        x.mark(2, IN, 0);
        is(x.hidden(), 2);
        is(x.seen(1), 0);
        x.mark(2, LAYER, 0);
        is(x.seen(1), 0);
        x.mark(1, LAYER, 1);
        is(x.hidden(), 4);
    }

    private static void pieces() {
        NestedClips x = told("par a dur 4 times 2 back (leaf b dur 9 rate 2 at 1; leaf c dur 1 times 2; leaf d dur 3 times 2;)");
        promise = 31;
        // b plays at 0, 1, 2 (4 2 0), then at 4, 5, 6 anew.
        is(x.pieces(0), 2);
        is(x.pieces(1), 2);
        // c plays at 2, 3 and 6, 7 with LOCAL 0 alone; d plays always, as 0 2, 1 0, 0 2, 1 0.
        is(x.pieces(2), 2);
        is(x.pieces(3), 4);
        no(x, x.pieces(4), 2);
        no(x, x.pieces(-1), 2);
        promise = 32;
        int[][] due = {{0, 1, 2, 0}, {2, 3, -1, 1}, {4, 5, 2, 0}, {6, 7, -1, 1}};
        for (int i = 0; i < due.length; i++) {
            for (int what = 0; what < 4; what++) {
                is(x.piece(3, i, what), due[i][what]);
                is(x.status(), 0);
            }
        }
        is(x.piece(1, 0, 2), -2);
        is(x.piece(1, 1, 0), 4);
        is(x.piece(1, 1, 3), 4);
        is(x.piece(2, 0, 2), 0);
        no(x, x.piece(3, 4, 0), 8);
        no(x, x.piece(3, 0, 4), 1);
        no(x, x.piece(3, 0, -1), 1);
        no(x, x.piece(9, -1, 0), 1);
        no(x, x.piece(9, 0, 0), 2);
        no(x, x.piece(0, GREATEST, 0), 8);
        x = told("leaf a cut 1;");
        is(x.pieces(0), 1);
        is(x.piece(0, 0, 1), 0);
        is(x.piece(0, 0, 2), 0);
        is(told("seq a ()").pieces(0), 0);
    }

    private static void reach() {
        promise = 33;
        NestedClips x = told("seq a (leaf b dur 9 rate 2; leaf c dur 9 rate 2 back; leaf d dur 1 times 3;)");
        // b: 0 2 4 6 8 at 0 to 4; c: 8 6 4 2 0 at 5 to 9; d: 0 0 0 at 10 to 12.
        is(x.reach(1, 0, 0), 0);
        is(x.reach(1, 0, 3), 2);
        is(x.reach(1, 0, 8), 4);
        no(x, x.reach(1, 0, 9), 8);
        is(x.reach(2, 0, 99), 5);
        is(x.reach(2, 0, 5), 7);
        is(x.reach(2, 0, 0), 9);
        is(x.reach(3, 0, 0), 10);
        no(x, x.reach(3, 0, 1), 8);
        no(x, x.reach(3, 1, 0), 8);
        no(x, x.reach(4, 0, 0), 2);
        no(x, x.reach(4, -1, 0), 1);
        no(x, x.reach(4, 0, -1), 1);
    }

    private static void spans() {
        promise = 34;
        NestedClips x = told("par a dur 5 times 2 hold (leaf b dur 3; leaf c at 4 dur 2; leaf d dur 2 times 3; leaf e at 9;)");
        is(x.spans(0), 1);
        is(x.spans(1), 2);
        is(x.spans(2), 2);
        is(x.spans(3), 1);
        is(x.spans(4), 0);
        no(x, x.spans(5), 2);
        promise = 35;
        is(x.span(1, 0, 0), 0);
        is(x.span(1, 0, 1), 2);
        is(x.span(1, 0, 2), 3);
        is(x.span(1, 1, 0), 5);
        is(x.span(1, 1, 1), 7);
        is(x.span(2, 0, 0), 4);
        is(x.span(2, 0, 1), 4);
        is(x.span(2, 1, 0), 9);
        is(x.span(2, 1, 1), 1999);
        is(x.span(2, 1, 2), 1);
        is(x.span(3, 0, 1), 1999);
        is(x.span(3, 0, 2), 2);
        no(x, x.span(4, 0, 0), 8);
        no(x, x.span(1, 2, 0), 8);
        no(x, x.span(1, 0, 3), 1);
        no(x, x.span(1, -1, 0), 1);
        no(x, x.span(9, 0, -1), 1);
        no(x, x.span(9, 0, 0), 2);
    }

    private static void ticksBothWhenFrames() {
        NestedClips x = told("par a dur 6 times 2 (leaf b dur 4 rate 2 times 2; leaf c at 2 dur 9; leaf d at 5 dur 1;)");
        promise = 36;
        is(x.ticks(0), 12);
        is(x.ticks(1), 8);
        is(x.ticks(2), 8);
        is(x.ticks(3), 2);
        no(x, x.ticks(4), 2);
        promise = 37;
        is(x.both(1, 2), 4);
        is(x.both(2, 1), 4);
        is(x.both(1, 3), 0);
        is(x.both(1, 1), 8);
        is(x.both(0, 2), 8);
        no(x, x.both(0, 4), 2);
        no(x, x.both(-1, 0), 2);
        promise = 38;
        // b: 0 2 0 2 at 0 to 3, and at 6 to 9.
        is(x.when(1, 2, 0), 1);
        is(x.when(1, 2, 1), 3);
        is(x.when(1, 2, 2), 7);
        is(x.when(1, 2, 3), 9);
        no(x, x.when(1, 2, 4), 8);
        no(x, x.when(1, 1, 0), 8);
        no(x, x.when(1, -1, 0), 1);
        no(x, x.when(9, 0, -1), 1);
        no(x, x.when(9, 0, 0), 2);
        promise = 39;
        is(x.frames(0), 6);
        is(x.frames(1), 2);
        is(x.frames(2), 4);
        is(x.frames(3), 1);
        no(x, x.frames(4), 2);
        is(told("leaf a dur 999 times 2;").frames(0), 999);
        is(told("leaf a dur 999 times 2 back hold;").ticks(0), 1998);
        is(told("seq a hold (leaf b;)").ticks(1), 2000);
        is(told("par a dur 2 (leaf b at 4;)").frames(1), 0);
    }

    private static void next() {
        promise = 40;
        NestedClips x = told("par a at 2 (leaf b dur 3; leaf c press 1;)");
        is(x.next(0), 2);
        is(x.next(1), 2);
        is(x.next(2), 5);
        no(x, x.next(5), 8);
        no(x, x.next(1999), 8);
        no(x, x.next(2000), 1);
        no(x, x.next(-1), 1);
        x.press(1, 3);
        is(x.next(2), 3);
        is(x.next(3), 5);
        x = told("leaf a at 999 dur 999;");
        is(x.next(0), 999);
        is(x.next(999), 1998);
        no(x, x.next(1998), 8);
    }

    private static void most() {
        promise = 41;
        NestedClips x = told("par a (leaf b dur 4; leaf c at 3 dur 4; seq d at 3 (leaf e dur 1; leaf f dur 2 hold;) leaf g at 9;)");
        is(x.most(0), 3);
        is(x.most(1), 3);
        no(x, x.most(2), 1);
        no(x, x.most(-1), 1);
        x = told("leaf a at 7 hold;");
        is(x.most(0), 1);
        is(x.most(1), 7);
        x = told("seq a ()");
        is(x.most(0), 0);
        is(x.most(1), 0);
    }

    private static void gaps() {
        promise = 42;
        NestedClips x = told("seq a at 2 (leaf b dur 2 hold; leaf c dur 3 at 4; leaf d dur 1 at 1;)");
        is(x.many(4), 13);
        is(x.gaps(), 7);
        is(x.status(), 0);
        x.mark(0, DUR, 20);
        is(x.gaps(), 16);
        x.mark(0, HOLD, 1);
        is(x.gaps(), 16);
        is(told("leaf a;").gaps(), 0);
    }

    private static void fit() {
        promise = 43;
        NestedClips x = told("seq a at 1 (leaf b dur 5; leaf c dur 6 rate 2 times 3; par d dur 7 (leaf e;))");
        is(x.many(4), 22);
        is(x.fit(1, 0, 22), 5);
        is(x.fit(1, 0, 30), 13);
        is(x.fit(1, 0, 18), 1);
        no(x, x.fit(1, 0, 17), 8);
        is(x.fit(1, 0, 1016), 999);
        no(x, x.fit(1, 0, 1017), 8);
        is(x.fit(2, 1, 31), 1);
        is(x.fit(2, 1, 18), 4);
        no(x, x.fit(2, 1, 20), 8);
        is(x.fit(2, 2, 16), 1);
        is(x.fit(2, 2, 40), 9);
        no(x, x.fit(2, 2, 17), 8);
        // A LEAF in a PAR that tells its own DUR makes no difference: the least that can be.
        is(x.fit(4, 0, 22), 1);
        is(x.fit(4, 1, 22), 1);
        no(x, x.fit(4, 2, 23), 8);
        is(x.fit(2, 0, 22), 6);
        is(x.fit(2, 0, 15), 1);
        no(x, x.fit(2, 0, 14), 8);
        no(x, x.fit(0, -1, 5), 1);
        no(x, x.fit(0, 3, 5), 1);
        no(x, x.fit(9, 0, -1), 1);
        no(x, x.fit(9, 0, 2000), 1);
        no(x, x.fit(9, 0, 1999), 2);
        is(x.many(4), 22);
        is(x.many(3), 1);
        is(x.clip(1, 4), 5);
    }

    private static void slack() {
        promise = 44;
        NestedClips x = told("par a (leaf b dur 30; leaf c dur 8 at 4; leaf d with c 3; leaf e behind d 2 dur 1; leaf f press 0;)");
        is(x.slack(1), 0);
        // c, then d at 7 to 17, e to 20: c can be 10 later.
        is(x.many(4), 30);
        is(x.slack(2), 10);
        no(x, x.slack(3), 5);
        no(x, x.slack(5), 5);
        no(x, x.slack(6), 2);
        no(x, x.slack(-1), 2);
        is(x.slack(0), 0);
        is(x.start(0, AT, 0, 999), AT);
        no(x, x.slack(0), 8);
        x.mark(0, CUT, 30);
        no(x, x.slack(2), 8);
        no(x, x.slack(1), 8);
        is(x.clip(2, 12), 4);
        is(x.many(4), 1029);
        x = told("seq a at 999 cut 999 (leaf b dur 999; leaf c;)");
        no(x, x.slack(1), 8);
        x = told("seq a (leaf b dur 999; leaf c dur 990;)");
        is(x.slack(2), 0);
        // b ends with the PAR at 998, so it would LAST longer with 989 and not before; with dur 999 never.
        x = told("par a (leaf b; leaf c dur 998;)");
        is(x.slack(1), 988);
        x.start(1, AT, 0, 500);
        is(x.slack(1), 488);
        x = told("par a (leaf b dur 1; leaf c dur 999;)");
        is(x.slack(1), 998);
        x = told("par a (leaf b dur 1; leaf c dur 999 at 1;)");
        no(x, x.slack(1), 8);
    }

    /** At 1,999, the last TIME, a LEAF begins by a PRESS; c and its PAR PLAY in a ROOT that is long FROZEN. */
    private static void lastTime() {
        NestedClips x = told("par a dur 1 hold (par b dur 1 (leaf c dur 1; leaf d dur 1 layer 3 press 0;))");
        is(x.press(0, 1999), 1);
        promise = 19;
        is(x.state(3, 1998), 1);
        is(x.state(3, 1999), 2);
        promise = 28;
        is(x.seen(2), 1999);
        is(x.seen(3), 1);
        promise = 29;
        is(x.brightest(3), 1999);
        promise = 30;
        is(x.hidden(), 0);
        promise = 31;
        is(x.pieces(3), 1);
        promise = 32;
        is(x.piece(3, 0, 0), 1999);
        is(x.piece(2, 0, 1), 1999);
        promise = 35;
        is(x.span(3, 0, 1), 1999);
        promise = 36;
        is(x.ticks(3), 1);
        is(x.ticks(2), 2000);
        promise = 37;
        is(x.both(2, 3), 1);
        promise = 38;
        is(x.when(3, 0, 0), 1999);
        is(x.when(2, 0, 1999), 1999);
        promise = 39;
        is(x.frames(3), 1);
        promise = 41;
        is(x.most(0), 2);
        is(x.most(1), 1999);
        promise = 14;
        is(x.many(7), 2);
        promise = 40;
        is(x.next(1), 1999);
        is(x.next(1998), 1999);
        promise = 46;
        x.seek(1998);
        is(x.play(1), 1);
        is(x.event(0, 1), 1999);
        x = told("seq a at 999 (leaf b dur 500; leaf c dur 500;)");
        is(x.seek(1998), 1 | 4);
        is(x.play(1), 2);
        promise = 42;
        is(x.gaps(), 999);
        promise = 40;
        is(x.next(1998), 1999);
    }

    private static void seekPlayEvent() {
        promise = 45;
        NestedClips x = told("par a at 1 (leaf b dur 2 times 2; leaf c dur 2 at 1 back;)");
        is(x.seek(2), 1 | 2 | 4);
        is(x.many(5), 2);
        no(x, x.seek(2000), 1);
        no(x, x.seek(-1), 1);
        is(x.many(5), 2);
        is(x.seek(1999), 0);
        promise = 46;
        no(x, x.play(1), 1);
        is(x.seek(0), 0);
        no(x, x.play(0), 1);
        no(x, x.play(201), 1);
        no(x, x.play(GREATEST), 1);
        is(x.play(6), 7);
        is(x.many(5), 6);
        is(x.many(8), 7);
        promise = 47;
        int[][] due = {{0, 1, 0, 0}, {0, 1, 1, 0}, {0, 2, 2, 1}, {2, 3, 1, 0}, {1, 4, 2, NONE},
            {1, 5, 0, NONE}, {1, 5, 1, NONE}};
        for (int i = 0; i < due.length; i++) {
            for (int what = 0; what < 4; what++) {
                is(x.event(i, what), due[i][what]);
                is(x.status(), 0);
            }
        }
        no(x, x.event(7, 0), 8);
        no(x, x.event(63, 0), 8);
        no(x, x.event(64, 0), 1);
        no(x, x.event(-1, 0), 1);
        no(x, x.event(0, 4), 1);
        no(x, x.event(0, -1), 1);
        x.seek(3);
        no(x, x.play(0), 1);
        is(x.many(8), 7);
        x.lose(2);
        is(x.event(2, 2), 2);
        x.undo();
        is(x.play(1), 1);
        is(x.event(0, 2), 2);
        x.seek(1700);
        is(x.play(200), 0);
        is(x.play(99), 0);
        no(x, x.play(1), 1);
        is(x.many(5), 1999);
        no(x, x.event(0, 0), 8);
        promise = 46;
        x = told("par a dur 1 times 9 (par b dur 1 (leaf c dur 1; leaf d dur 1;))");
        is(x.play(9), 8 + 4);
        x = told("leaf z;");
        is(Calls.load(x, "leaf a dur 1 times 9 at 1;"), 1);
        is(x.play(200), 10);
        x = told("par a dur 2 times 9 (par b dur 1 (leaf c; leaf d; leaf e; leaf f; leaf g;))");
        // At 1, 3 .. 17 six CLIPS play no more; at 2, 4 .. 16 they play again and the ROOT has another PASS; at 18 it ends.
        is(x.play(18), 9 * 6 + 8 * 7 + 1);
        promise = 47;
        // 1 to 9: 5 times 6 and 4 times 7 EVENTS; then the ROOT's and five more at 10: the last one kept is f's.
        int[] last = {0, 10, 5, 0};
        for (int what = 0; what < 4; what++) {
            is(x.event(63, what), last[what]);
        }
        no(x, x.event(64, 1), 1);
    }
}
