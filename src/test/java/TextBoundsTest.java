/** The SHOW as a text (Terms 1, promises 3 to 5): each sentence that names a bound, with what lies next to it. */
public final class TextBoundsTest {
    private static final int NONE = NestedClips.NONE;
    private static final String[] WORDS = {"leaf", "par", "seq", "dur", "rate", "times", "cut", "back", "hold",
        "layer", "in", "out", "at", "with", "behind", "press"};
    private static final int LONGEST = 600;

    private TextBoundsTest() { }

    public static void main(String[] args) {
        signsThatBeginTokens();
        signsBetweenTokens();
        tokensAsLongAsTheyGo();
        numbersOfOneToFourDigits();
        namesOfOneToEightLetters();
        namesThatAreWords();
        whatCanStandWhere();
        theEndTooEarly();
        marksToTheirBounds();
        marksThatAreNotTold();
        startsToTheirBounds();
        namesThatAreTaken();
        namesOfNoOther();
        marksTwice();
        startsOutsideOfPar();
        twelveClips();
        withinFourOthers();
        rings();
        lastsTooLong();
        theFirstFaultAlongTheText();
        ofOneTokenTheLeastKind();
        feedBytes();
        feedUpToSixHundred();
        loadFirstBytes();
        loadBeginsAnew();
        loadOfWrongNumbers();
        loadWithFault();
        loadForgetsTheShowAhead();
        faultTells();
        Due.end();
    }

    private static NestedClips fedWith(String text) {
        NestedClips x = new NestedClips();
        for (int from = 0; from < text.length(); from += 20) {
            Calls.call(x, "feed", Calls.fed(text, from));
        }
        return x;
    }

    /** The FAULT of the first n bytes of a text. */
    private static void partly(String text, int n, int kind, int place) {
        NestedClips x = fedWith(text);
        if (kind == 0) {
            Due.is(x.load(n) > 0 ? 1 : 0, 1);
        } else {
            Due.no(x, x.load(n), 9);
        }
        Due.is(x.fault(0), kind);
        Due.is(x.fault(1), place);
    }

    private static boolean isBlank(int sign) {
        return sign == 10 || sign == 32;
    }

    private static boolean beginsToken(int sign) {
        return sign >= 97 && sign <= 122 || sign >= 48 && sign <= 57 || sign == 40 || sign == 41 || sign == 59;
    }

    private static void signsThatBeginTokens() {
        Due.of("FAULT 1: no TOKEN begins so");
        for (int sign = 0; sign < 256; sign++) {
            String text = String.valueOf((char) sign);
            if (isBlank(sign)) {
                Due.faulty(text, 2, 1);
            } else {
                Due.faulty(text, beginsToken(sign) ? 2 : 1, 0);
            }
        }
    }

    private static void signsBetweenTokens() {
        Due.of("between them blanks (10, 32)");
        for (int sign = 0; sign < 256; sign++) {
            String text = "leaf q" + (char) sign + ";";
            boolean letter = sign >= 97 && sign <= 122;
            if (isBlank(sign) || letter) {
                Due.told(text);
            } else if (sign == 59) {
                Due.faulty(text, 2, 7);
            } else {
                Due.faulty(text, beginsToken(sign) ? 2 : 1, 6);
            }
        }
        Due.is(Due.told("par a(leaf b;leaf c;)").many(0), 3);
        Due.is(Due.told("\n\n  par \n a \n\n( leaf\nb\n;\n leaf c ; ) \n ").many(0), 3);
        Due.faulty("\n \n leaf", 2, 8);
    }

    private static void tokensAsLongAsTheyGo() {
        Due.of("TOKENS, as long as they go");
        Due.faulty("leafa;", 2, 0);
        Due.faulty("leaf a durr 5;", 2, 7);
        Due.faulty("leaf a du r 5;", 2, 7);
        Due.faulty("leaf a dur 5 5;", 2, 13);
        Due.faulty("leaf a1;", 2, 6);
        Due.faulty("leaf a backhold;", 2, 7);
        Due.is(Due.told("leaf a dur5rate2back hold;").clip(0, 5), 2);
        Due.is(Due.told("leaf a dur 12;").clip(0, 4), 12);
        Due.faulty("leaf a dur 1 2;", 2, 13);
    }

    private static void numbersOfOneToFourDigits() {
        Due.of("NUMBERS (1 to 4 digits); FAULT 1 (a NUMBER of 5 digits and more: at its first)");
        Due.is(Due.told("leaf a dur 7;").clip(0, 4), 7);
        Due.is(Due.told("leaf a dur 07;").clip(0, 4), 7);
        Due.is(Due.told("leaf a dur 0007;").clip(0, 4), 7);
        Due.faulty("leaf a dur 00007;", 1, 11);
        Due.faulty("leaf a dur 000000000007;", 1, 11);
        Due.faulty("leaf a dur 9999;", 4, 11);
        Due.faulty("leaf a dur 10000;", 1, 11);
        Due.faulty("leaf a dur 99999;", 1, 11);
        Due.faulty("leaf a at 18446744073709551617;", 1, 10);
        Due.faulty("12345", 1, 0);
        Due.faulty("1234", 2, 0);
        Due.faulty("leaf 12345;", 1, 5);
        Due.faulty("leaf a 12345;", 1, 7);
        Due.faulty("par a(12345", 1, 6);
        Due.faulty("leaf a;12345", 1, 7);
        // The digits behind the first n bytes are not in the text.
        partly("leaf a dur 12345;", 15, 4, 11);
        partly("leaf a dur 12345;", 16, 1, 11);
    }

    private static void namesOfOneToEightLetters() {
        Due.of("NAME: a WORD of 1 to 8 letters; FAULT 2 (a WORD of 9 letters and more where a NAME must stand)");
        String letters = "qwertyuiop";
        for (int length = 1; length <= letters.length(); length++) {
            String name = letters.substring(0, length);
            if (length <= 8) {
                Due.is(Due.told("leaf " + name + ";").many(0), 1);
                Due.is(Due.told("par a(leaf b with " + name + " 1;leaf " + name + ";)").clip(1, 11), 2);
            } else {
                Due.faulty("leaf " + name + ";", 2, 5);
                Due.faulty("par a(leaf b with " + name + " 1;leaf c;)", 2, 18);
                Due.faulty("par a(leaf b behind " + name + " 1;leaf c;)", 2, 20);
            }
        }
        Due.faulty("leaf abcdefghijklmnopqrstuvwxyzabcdefghijklmnopqrstuvwxyz;", 2, 5);
        // Each of eight letters tells two NAMES from one another.
        for (int at = 0; at < 8; at++) {
            String other = "zzzzzzzz".substring(0, at) + "y" + "zzzzzzzz".substring(at + 1);
            Due.is(Due.told("par a(leaf zzzzzzzz;leaf " + other + ";leaf b with " + other + " 0;)").clip(3, 11), 2);
        }
        Due.is(Due.told("par aa(leaf a;leaf aaa;leaf aaaaaaa;leaf aaaaaaaa;)").many(0), 5);
    }

    private static void namesThatAreWords() {
        Due.of("NAME: .. none of these");
        for (String word : WORDS) {
            Due.faulty("leaf " + word + ";", 2, 5);
            Due.faulty("par a(leaf b with " + word + " 1;)", 2, 18);
            Due.faulty("par a(leaf b behind " + word + " 1;)", 2, 20);
            Due.is(Due.told("leaf " + word + "s;").many(0), 1);
            Due.is(Due.told("leaf x" + word + ";").many(0), 1);
            Due.is(Due.told("leaf " + word.substring(0, word.length() - 1) + ";").many(0), 1);
            Due.is(Due.told("leaf " + word.substring(1) + ";").many(0), 1);
        }
    }

    /** Behind each beginning of a text, each kind of TOKEN: those named can stand there, at the others is FAULT 2. */
    private static void whatCanStandWhere() {
        Due.of("FAULT 2: it can't stand there");
        stand("", "leaf par seq");
        stand("leaf ", "n");
        stand("par ", "n");
        stand("seq ", "n");
        stand("leaf a ", "mark back at ;");
        stand("par a ", "mark back at (");
        stand("seq a ", "mark back at (");
        stand("leaf a hold ", "mark back at ;");
        stand("par a hold ", "mark back at (");
        stand("leaf a at ", "5");
        stand("leaf a dur ", "5");
        stand("leaf a rate ", "5");
        stand("leaf a times ", "5");
        stand("leaf a cut ", "5");
        stand("leaf a layer ", "5");
        stand("leaf a in ", "5");
        stand("leaf a out ", "5");
        stand("leaf a dur 3 ", "mark back at ;");
        stand("seq a dur 3 ", "mark back at (");
        stand("par a (", "leaf par seq )");
        stand("seq a (", "leaf par seq )");
        stand("par a (leaf b ", "mark back at with press ;");
        stand("par a (leaf b;", "leaf par seq )");
        stand("seq a (leaf b;", "leaf par seq )");
        stand("par a (seq b ()", "leaf par seq )");
        stand("par a (leaf b with ", "n");
        stand("par a (leaf b behind ", "n");
        stand("par a (leaf b press ", "5");
        stand("par a (leaf b with n ", "5");
        stand("par a (leaf b behind n ", "5");
        stand("leaf a;", "end");
        stand("par a ()", "end");
        stand("seq a (leaf b;)", "end");
    }

    private static void stand(String before, String can) {
        String[] kinds = {"leaf", "par", "seq", "n", "mark", "back", "at", "with", "press", "5", "(", ")", ";", "end"};
        boolean mayStart = before.startsWith("par a (leaf b ");
        for (String kind : kinds) {
            String token = kind.equals("mark") ? "layer" : kind.equals("end") ? "" : kind;
            NestedClips x = new NestedClips();
            Calls.load(x, before + token);
            boolean stands = (" " + can + " ").contains(" " + kind + " ");
            boolean isMark = (" " + can + " ").contains(" mark ");
            boolean onlyInPar = kind.equals("with") || kind.equals("press");
            if (onlyInPar && isMark && !mayStart) {
                Due.is(x.fault(0), 5);
                Due.is(x.fault(1), before.length());
            } else if (!stands) {
                Due.is(x.fault(0), 2);
                Due.is(x.fault(1), before.length());
            } else {
                // If it stands, the first FAULT is behind it, or a NUMBER that can't be.
                Due.is(x.fault(1) == before.length() && x.fault(0) != 4 && !kind.equals("end") ? 1 : 0, 0);
            }
        }
    }

    private static void theEndTooEarly() {
        Due.of("FAULT 2 (the end: the text's length)");
        String text = "par a dur 5 ( leaf b with c 3 ; leaf c press 2 back ; seq d ( ) )";
        for (int n = 0; n < text.length(); n++) {
            boolean behindToken = n == 0 || text.charAt(n - 1) == ' ' || text.charAt(n) == ' ';
            if (behindToken) {
                partly(text, n, 2, n);
            }
        }
        partly(text, text.length(), 0, NONE);
        Due.faulty("", 2, 0);
        Due.faulty("   ", 2, 3);
        Due.faulty("leaf a   ", 2, 9);
    }

    private static String inMark(String word, int number) {
        return "leaf a " + word + " " + number + ";";
    }

    private static void marksToTheirBounds() {
        Due.of("MARK: dur NUMBER (1 to 999), rate (1 to 4), times (1 to 9), cut (1 to 999), layer (0 to 9), in, out (0 to 20)");
        String[] words = {"dur", "rate", "times", "cut", "layer", "in", "out"};
        int[] what = {4, 5, 6, 7, 16, 17, 18};
        int[] least = {1, 1, 1, 1, 0, 0, 0};
        int[] most = {999, 4, 9, 999, 9, 20, 20};
        for (int i = 0; i < words.length; i++) {
            for (int number = 0; number <= most[i] + 1; number += number > 22 && number < most[i] - 2 ? 25 : 1) {
                if (number < least[i] || number > most[i]) {
                    Due.faulty(inMark(words[i], number), 4, 8 + words[i].length());
                } else {
                    NestedClips x = Due.told(inMark(words[i], number));
                    Due.is(x.clip(0, what[i]), number);
                }
            }
            Due.faulty(inMark(words[i], 9999), 4, 8 + words[i].length());
        }
        Due.is(Due.told("leaf a back;").clip(0, 8), 1);
        Due.is(Due.told("leaf a hold;").clip(0, 9), 1);
        Due.is(Due.told("par a back hold ()").clip(0, 8), 1);
    }

    private static void marksThatAreNotTold() {
        Due.of("DUR (0: none told), RATE (1), TIMES (1), CUT (0: none); 0 where nothing else is told; AT (0 without)");
        NestedClips x = Due.told("par a dur 9 rate 4 times 9 cut 9 back hold layer 9 in 9 out 9 at 9 (leaf b; seq c ())");
        for (int clip = 1; clip <= 2; clip++) {
            int[] due = {0, 1, 1, 0, 0, 0, 0, NONE, 0};
            for (int what = 4; what <= 12; what++) {
                Due.yes(x, x.clip(clip, what), due[what - 4]);
            }
            for (int what = 16; what <= 18; what++) {
                Due.yes(x, x.clip(clip, what), 0);
            }
        }
    }

    private static void startsToTheirBounds() {
        Due.of("START: AT a number (0 to 999), WITH, BEHIND (and a number, 0 to 999), PRESS of a key (0 to 3)");
        int[] numbers = {0, 1, 2, 3, 4, 500, 998, 999, 1000, 9999};
        for (int number : numbers) {
            start("at ", 0, NONE, number, 999);
            start("with b ", 1, 1, number, 999);
            start("behind b ", 2, 1, number, 999);
            start("press ", 3, NONE, number, 3);
        }
    }

    private static void start(String words, int how, int other, int number, int most) {
        String text = "par a (leaf b; leaf c " + words + number + ";)";
        if (number > most) {
            Due.faulty(text, 4, 22 + words.length());
            return;
        }
        NestedClips x = Due.told(text);
        Due.is(x.clip(2, 10), how);
        Due.yes(x, x.clip(2, 11), other);
        Due.is(x.clip(2, 12), number);
    }

    private static void namesThatAreTaken() {
        Due.of("FAULT 3: a NAME (of a CLIP) that is taken");
        Due.faulty("par a (leaf a;)", 3, 12);
        Due.faulty("par a (leaf b; leaf b;)", 3, 20);
        Due.faulty("par a (seq b (leaf c;) leaf c;)", 3, 28);
        Due.faulty("par a (seq b (leaf b;))", 3, 19);
        Due.faulty("par a (seq b (leaf c;) seq d (leaf c;))", 3, 35);
        Due.faulty("par aaaaaaaa (leaf aaaaaaaa;)", 3, 19);
        // A NAME that another CLIP starts by is not taken by that.
        Due.is(Due.told("par a (leaf b with c 1; leaf c;)").clip(1, 11), 2);
        Due.faulty("par a(leaf b;leaf c;leaf d;leaf e;leaf f;leaf g;leaf h;leaf i;leaf j;leaf k;leaf a;)", 3, 81);
        Due.faulty("par a(leaf b;leaf c;leaf d;leaf e;leaf f;leaf g;leaf h;leaf i;leaf j;leaf k;leaf k;)", 3, 81);
    }

    private static void namesOfNoOther() {
        Due.of("FAULT 3: at the ) of a PAR: with, behind a NAME that no other CLIP right within it has");
        for (String by : new String[] {"with", "behind"}) {
            int more = by.length();
            Due.faulty("par a (leaf b " + by + " c 0;)", 3, 19 + more);
            Due.faulty("par a (leaf b " + by + " b 0;)", 3, 19 + more);
            Due.faulty("par a (leaf b " + by + " a 0;)", 3, 19 + more);
            Due.faulty("par a (leaf b " + by + " d 0; seq c (leaf d;))", 3, 35 + more);
            Due.faulty("par a (leaf b; par c (leaf d " + by + " b 0;))", 3, 34 + more);
            Due.faulty("par a (leaf b; par c (leaf d " + by + " c 0;))", 3, 34 + more);
            Due.faulty("par a (par b (leaf x;) par c (leaf d " + by + " x 0;))", 3, 42 + more);
            Due.is(Due.told("par a (leaf b; leaf d " + by + " b 0;)").clip(2, 11), 1);
            Due.is(Due.told("par a (leaf d " + by + " b 0; leaf b;)").clip(1, 11), 2);
            Due.is(Due.told("par a (leaf d " + by + " c 0; seq c (leaf x; leaf y;))").clip(1, 11), 2);
            Due.is(Due.told("par a (seq c (leaf x; leaf y;) leaf e; leaf d " + by + " e 0;)").clip(5, 11), 4);
            // The one of two that comes first has its FAULT at the same ).
            Due.faulty("par a (leaf b; leaf c " + by + " b 0; leaf d " + by + " x 0;)", 3, 40 + 2 * more);
            // In the inner PAR all is well, in the outer one not.
            Due.faulty("par a (par b (leaf c; leaf d " + by + " c 0;) leaf e " + by + " c 0;)", 3, 48 + 2 * more);
        }
    }

    private static void marksTwice() {
        Due.of("FAULT 5: a MARK that it has");
        String[] marks = {"dur 5", "rate 2", "times 2", "cut 5", "back", "hold", "layer 1", "in 1", "out 1", "at 1"};
        for (String mark : marks) {
            Due.faulty("leaf a " + mark + " " + mark + ";", 5, 8 + mark.length());
            for (String other : marks) {
                if (!other.equals(mark)) {
                    Due.told("leaf a " + mark + " " + other + ";");
                    Due.faulty("leaf a " + mark + " " + other + " " + mark + ";", 5, 9 + mark.length() + other.length());
                }
            }
            // What another CLIP has doesn't count.
            Due.told("par a " + mark + " (leaf b " + mark + "; leaf c " + mark + ";)");
        }
        Due.of("FAULT 5: (at, with, behind, press are one)");
        String[] starts = {"at 1", "with c 1", "behind c 1", "press 1"};
        for (String first : starts) {
            for (String second : starts) {
                Due.faulty("par a (leaf b " + first + " " + second + "; leaf c;)", 5, 15 + first.length());
            }
        }
    }

    private static void startsOutsideOfPar() {
        Due.of("FAULT 5: with, behind, press of a CLIP that is not right within a PAR (at that WORD)");
        for (String start : new String[] {"with b 1", "behind b 1", "press 1"}) {
            Due.faulty("leaf a " + start + ";", 5, 7);
            Due.faulty("par a " + start + " (leaf b;)", 5, 6);
            Due.faulty("seq a (leaf b; leaf c " + start + ";)", 5, 22);
            Due.faulty("par a (seq x (leaf b; leaf c " + start + ";))", 5, 29);
            Due.told("seq x (par a (leaf b; leaf c " + start + ";))");
            Due.told("par a (leaf b; seq c " + start + " ())");
            Due.told("par a (leaf b; par c " + start + " ())");
        }
        Due.told("leaf a at 1;");
        Due.told("seq a at 1 (leaf b at 1;)");
    }

    private static String leaves(int many) {
        StringBuilder text = new StringBuilder();
        for (int i = 0; i < many; i++) {
            text.append("leaf ").append((char) ('b' + i)).append(';');
        }
        return text.toString();
    }

    private static void twelveClips() {
        Due.of("CLIPS, at most 12; FAULT 6: a 13th CLIP (at its WORD)");
        Due.is(Due.told("par a()").many(0), 1);
        Due.is(Due.told("par a(" + leaves(10) + ")").many(0), 11);
        Due.is(Due.told("par a(" + leaves(11) + ")").many(0), 12);
        Due.is(Due.told("par a(" + leaves(11) + ")").many(1), 11);
        for (String word : new String[] {"leaf", "par", "seq"}) {
            Due.faulty("par a(" + leaves(11) + word + " z", 6, 83);
            Due.faulty("par a(" + leaves(11) + word, 6, 83);
            Due.faulty("par a(" + leaves(11) + "  " + word + " b", 6, 85);
        }
        Due.faulty("par a(" + leaves(12) + ")", 6, 83);
        Due.faulty("seq a(seq z(" + leaves(9) + ")seq y()leaf x;)", 6, 83);
        Due.faulty("par a(" + leaves(11) + "dur 5", 2, 83);
    }

    private static void withinFourOthers() {
        Due.of("A CLIP is within four others at most; FAULT 6: one within five others (at its WORD)");
        Due.is(Due.told("par a(seq b(par c(seq d(leaf e;par f()seq g()))))").many(0), 7);
        for (String word : new String[] {"leaf", "par", "seq"}) {
            Due.faulty("par a(seq b(par c(seq d(par e(" + word + " f", 6, 30);
            Due.faulty("par a(seq b(par c(seq d(par e(" + word, 6, 30);
            // Four around it, behind one that has closed.
            Due.faulty("par a(seq b(par c(seq d(par e()" + word, 2, 31 + word.length());
        }
        Due.is(Due.told("par a(seq b(par c(seq d(par e()))) seq f(par g(seq h(leaf i;))))").clip(8, 1), 7);
    }

    private static void rings() {
        Due.of("A RING: CLIPS that start WITH or BEHIND one another round; FAULT 7: at the ) of a PAR");
        Due.faulty("par a(leaf b with c 0;leaf c with b 0;)", 7, 38);
        Due.faulty("par a(leaf b behind c 0;leaf c behind b 0;)", 7, 42);
        Due.faulty("par a(leaf b with c 0;leaf c behind b 0;)", 7, 40);
        Due.faulty("par a(leaf b with c 0;leaf c with d 0;leaf d with b 0;)", 7, 54);
        Due.faulty("par a(leaf e with b 0;leaf b with c 0;leaf c with b 0;)", 7, 54);
        Due.faulty("par a(leaf b with c 0;leaf c with b 0;leaf e with b 0;)", 7, 54);
        Due.faulty("par a(leaf x;leaf b with c 0;leaf c with b 0;leaf y press 1;)", 7, 60);
        Due.faulty("par a(par z(leaf b with c 0;leaf c with b 0;)leaf d;)", 7, 44);
        Due.faulty("seq a(par z(leaf b with c 0;leaf c with b 0;)leaf d;)", 7, 44);
        Due.faulty("par a(" + chain("b") + ")", 7, 6 + chain("b").length());
        Due.of("no RING: a chain that ends AT or by PRESS");
        Due.is(Due.told("par a(" + chain("") + ")").begin(1), 10);
        Due.is(Due.told("par a(leaf b with c 0;leaf c with d 0;leaf d at 3;)").begin(1), 3);
        Due.is(Due.told("par a(leaf b with c 0;leaf c with d 0;leaf d press 3;)").many(6), 3);
        Due.is(Due.told("par a(leaf b with d 0;leaf c with d 0;leaf d;)").clip(2, 11), 3);
    }

    /** Eleven LEAVES, each WITH the next one by 1; the last one WITH one of them, if it is named. */
    private static String chain(String last) {
        StringBuilder text = new StringBuilder();
        for (char name = 'b'; name < 'l'; name++) {
            text.append("leaf ").append(name).append(" with ").append((char) (name + 1)).append(" 1;");
        }
        return text.append("leaf l").append(last.isEmpty() ? "" : " with " + last + " 1").append(';').toString();
    }

    private static void lastsTooLong() {
        Due.of("FAULT 8: at the end: it LASTS more than 1,999");
        Due.is(Due.told("leaf a at 999 dur 999;").many(4), 1998);
        Due.is(Due.told("leaf a at 999 dur 500 times 2;").many(4), 1999);
        Due.faulty("leaf a at 999 dur 501 times 2 rate 1;", 8, 37);
        Due.faulty("leaf a at 999 dur 501 times 2;  ", 8, 32);
        Due.is(Due.told("seq a at 2(leaf b dur 999;leaf c dur 998;)").many(4), 1999);
        Due.faulty("seq a at 2(leaf b dur 999;leaf c dur 999;)", 8, 42);
        Due.is(Due.told("leaf a dur 222 times 9;").many(4), 1998);
        Due.faulty("leaf a dur 223 times 9;", 8, 23);
        // Within it there may be more, if the ROOT is cut, or tells its own DUR, or the longer one is OPEN.
        Due.is(Due.told("seq a cut 999(leaf b dur 999 times 9;leaf c dur 999 times 9;)").many(4), 999);
        Due.is(Due.told("par a dur 1(leaf b dur 999 times 9;)").many(4), 1);
        Due.is(Due.told("par a(leaf b dur 999 times 9 press 0;)").many(4), 0);
        Due.is(Due.told("seq a rate 4(leaf b dur 999 times 8;)").many(4), 1998);
        Due.faulty("seq a rate 4(leaf b dur 999 times 9;)", 8, 37);
        Due.faulty("seq a(leaf b dur 999 times 9;", 2, 29);
        Due.faulty("leaf a dur 999 times 9; )", 2, 24);
    }

    private static void theFirstFaultAlongTheText() {
        Due.of("FAULTS, the first along the text");
        Due.faulty("par a(leaf a; !", 3, 11);
        Due.faulty("par a(leaf b dur 0; !", 4, 17);
        Due.faulty("leaf a dur 5 dur 0 !", 5, 13);
        Due.faulty("leaf a with a a;", 5, 7);
        Due.faulty("par a(leaf b with x 1000;)", 4, 20);
        Due.faulty("par a(leaf b with c 1;leaf c with b 1;) !", 7, 38);
        Due.faulty("par a(leaf b with x 1;) !", 3, 22);
        Due.faulty("par a(" + leaves(11) + "leaf 5 !", 6, 83);
        Due.faulty("leaf dur dur 0;", 2, 5);
        Due.faulty("leaf ! dur 0;", 1, 5);
        Due.faulty("par a(leaf b press 4 at 1;)", 4, 19);
        Due.faulty("par a(leaf b with b 1; leaf a;)", 3, 28);
    }

    private static void ofOneTokenTheLeastKind() {
        Due.of("FAULTS .. (of one TOKEN the least kind)");
        // At the ): a NAME that no other has, and a RING.
        Due.faulty("par a(leaf b with c 1;leaf c with b 1;leaf d with x 1;)", 3, 54);
        Due.faulty("par a(leaf d with d 1;leaf b with c 1;leaf c with b 1;)", 3, 54);
        // A NUMBER of 5 digits where no NUMBER can stand, and of those that can't be.
        Due.faulty("leaf a dur 5 55555;", 1, 13);
        Due.faulty("leaf a dur 55555;", 1, 11);
        // A NUMBER that can't be where none can stand.
        Due.faulty("leaf a 1000;", 2, 7);
        // A MARK that it has where none can stand; a WORD of a 13th CLIP where none can stand.
        Due.faulty("leaf a dur dur;", 2, 11);
        Due.faulty("par a(" + leaves(10) + "leaf l leaf", 2, 83);
        // The end can't stand there, and it would LAST too long.
        Due.faulty("par a dur 999 times 9(", 2, 22);
        // A MARK that it has and that it can't have is one FAULT 5.
        Due.faulty("leaf a at 1 with b 1;", 5, 12);
    }

    private static void feedBytes() {
        Due.of("Promise 3: the highest of each int first");
        NestedClips x = new NestedClips();
        Due.is(x.feed(0x6c656166, 0x20616263, 0x64656667, 0x68206475, 0x72203132), 20);
        Due.is(x.feed(0x333b2020, 0x20202020, 0x20202020, 0x20202020, 0x20202020), 40);
        Due.is(x.load(40), 1);
        Due.is(x.clip(0, 4), 123);
        // 255 and 128 are bytes as well, and none of them begins a TOKEN.
        Due.is(x.feed(0x6c656166, 0x20ff0000, 0, 0, 0), 20);
        Due.no(x, x.load(20), 9);
        Due.is(x.fault(0), 1);
        Due.is(x.fault(1), 5);
        Due.is(x.feed(-1, -1, -1, -1, -1), 20);
        Due.is(x.feed(Due.LEAST, Due.GREATEST, 0, 1, -2), 40);
        Due.is(x.many(9), 40);
    }

    private static void feedUpToSixHundred() {
        Due.of("Promise 3: how many it has; NONE if there would be more than 600");
        NestedClips x = new NestedClips();
        Due.is(x.many(9), 0);
        for (int i = 1; i <= 30; i++) {
            Due.is(x.feed(0x20202020, 0x20202020, 0x20202020, 0x20202020, i == 30 ? 0x20202061 : 0x20202020), i * 20);
        }
        Due.no(x, x.begin(0), 2);
        Due.is(x.feed(0, 0, 0, 0, 0), NONE);
        Due.is(x.feed(0, 0, 0, 0, 0), NONE);
        // feed() has no STATUS.
        Due.is(x.status(), 2);
        Due.is(x.many(9), 600);
        Due.no(x, x.load(600), 9);
        Due.is(x.fault(0), 2);
        Due.is(x.fault(1), 599);
        Due.is(x.feed(0, 0, 0, 0, 0), 20);
        // A SHOW as long as the tape.
        StringBuilder text = new StringBuilder("leaf a");
        while (text.length() < LONGEST - 1) {
            text.append(' ');
        }
        Due.is(Due.told(text.append(';').toString()).many(0), 1);
    }

    private static void loadFirstBytes() {
        Due.of("Promise 4: the first n bytes of the tape (which is empty then) are the SHOW");
        String text = "leaf a dur 5;leaf b;";
        partly(text, 12, 2, 12);
        partly(text, 13, 0, NONE);
        partly(text, 14, 2, 13);
        NestedClips x = fedWith(text);
        Due.is(x.load(13), 1);
        Due.is(x.many(9), 0);
        // What stood behind it is gone.
        Due.no(x, x.load(1), 1);
        Due.no(x, x.load(0), 9);
        x = fedWith("leaf a; leaf b; leaf c;");
        Due.is(x.load(7), 1);
        Due.is(x.feed(0x6c656166, 0x20623b00, 0, 0, 0), 20);
        Due.is(x.load(7), 1);
    }

    private static void loadBeginsAnew() {
        Due.of("Promise 4: PRESSES are none, the HEAD is at 0, there was no PLAY: how many CLIPS");
        NestedClips x = Due.told("par a (leaf b dur 3; leaf c press 1;)");
        x.press(1, 2);
        x.press(0, 2);
        x.seek(1);
        Due.is(x.play(4), 4);
        Due.is(x.many(5), 5);
        Due.yes(x, Calls.load(x, "par a (leaf b dur 3; leaf c press 1;)"), 3);
        Due.is(x.many(2), 0);
        Due.is(x.many(5), 0);
        Due.is(x.many(8), 0);
        Due.no(x, x.event(0, 0), 8);
        Due.no(x, x.pressed(0, 0), 8);
        Due.is(x.state(2, 2), 1);
        Due.is(x.many(3), 4);
        Due.yes(x, Calls.load(x, "leaf a;"), 1);
        Due.no(x, x.clip(1, 0), 2);
    }

    private static NestedClips busy() {
        NestedClips x = Due.told("par a (leaf b dur 3; leaf c press 1;)");
        x.press(1, 2);
        x.seek(1);
        x.play(4);
        x.feed(0x6c656166, 0x20623b00, 0, 0, 0);
        return x;
    }

    private static void loadOfWrongNumbers() {
        Due.of("Promise 4: (1: n below 0, above what the tape has)");
        for (int n : new int[] {Due.LEAST, -2, -1, 21, 22, 600, 601, Due.GREATEST}) {
            Due.refused(TextBoundsTest::busy, 1, x -> x.load(n));
        }
        Due.refused(NestedClips::new, 1, x -> x.load(-1));
        Due.refused(NestedClips::new, 1, x -> x.load(1));
        NestedClips x = busy();
        Due.no(x, x.load(20), 9);
        Due.is(x.fault(1), 7);
        x = busy();
        Due.yes(x, x.load(7), 1);
        x = new NestedClips();
        Due.no(x, x.load(0), 9);
        Due.is(x.fault(0), 2);
        Due.is(x.fault(1), 0);
    }

    private static void loadWithFault() {
        Due.of("With another STATUS than 0 .. changes nothing else (load() with 9: but the tape and what fault() tells)");
        String[] faulty = {"!", "leaf", "par a(leaf a;)", "leaf a dur 0;", "leaf a back back;",
            "par a(" + leaves(12) + ")", "par a(leaf b with c 1;leaf c with b 1;)", "leaf a dur 999 times 9;"};
        for (int i = 0; i < faulty.length; i++) {
            NestedClips x = busy();
            x.load(7);
            x.undo();
            x.press(2, 9);
            x.seek(3);
            x.play(2);
            int[] before = {x.many(0), x.many(2), x.many(3), x.many(4), x.many(5), x.many(7), x.many(8), x.event(0, 1)};
            Due.no(x, Calls.load(x, faulty[i]), 9);
            Due.is(x.fault(0), i + 1);
            Due.is(x.many(9), 0);
            Due.are(new int[] {x.many(0), x.many(2), x.many(3), x.many(4), x.many(5), x.many(7), x.many(8), x.event(0, 1)},
                    before);
            Due.is(x.state(2, 2), 2);
            Due.is(x.undo(), 2);
            Due.is(x.many(2), 1);
        }
    }

    private static void loadForgetsTheShowAhead() {
        Due.of("Promise 4: the first n bytes are the SHOW, whatever the one ahead of it was");
        String marked = " dur 9 rate 4 times 9 cut 9 back hold layer 9 in 9 out 9";
        NestedClips x = Due.told("par a" + marked + " at 9 (leaf b" + marked + "; leaf x" + marked + " with b 9; leaf c" + marked
                + " press 1;)");
        Due.is(Calls.load(x, "seq a (leaf b; par c ())"), 3);
        int[] plain = {0, 1, 1, 0, 0, 0, 0, NONE, 0};
        for (int clip = 0; clip < 3; clip++) {
            for (int what = 4; what <= 12; what++) {
                Due.yes(x, x.clip(clip, what), plain[what - 4]);
            }
            for (int what = 16; what <= 18; what++) {
                Due.yes(x, x.clip(clip, what), 0);
            }
        }
        Due.is(x.many(4), 10);
        Due.no(x, x.clip(3, 0), 2);
        // A NAME of that one is neither taken nor there to start by.
        x = Due.told("par a (leaf b; leaf x;)");
        Due.no(x, Calls.load(x, "par a (leaf b with x 1;)"), 9);
        Due.is(x.fault(0), 3);
        Due.is(x.fault(1), 23);
        Due.yes(x, Calls.load(x, "par x (leaf a; leaf b;)"), 3);
        Due.no(x, Calls.load(x, "par a (leaf b; leaf c; leaf x"), 9);
        Due.yes(x, Calls.load(x, "par x (leaf c;)"), 2);
        // Nor are the MARKS of a CLIP at which it stopped.
        Due.no(x, Calls.load(x, "par a (leaf b back back;)"), 9);
        Due.yes(x, Calls.load(x, "par a back (leaf b back;)"), 2);
    }

    private static void faultTells() {
        Due.of("Promise 5: NONE for others, and ahead of any");
        NestedClips x = new NestedClips();
        Due.is(x.fault(0), NONE);
        Due.is(x.fault(1), NONE);
        Due.no(x, x.load(1), 1);
        Due.is(x.fault(0), NONE);
        Due.is(x.fault(1), NONE);
        Due.of("Promise 5: of the latest load() with STATUS 0 or 9: the FAULT (0 without one), its place (NONE without)");
        Due.no(x, Calls.load(x, "leaf a dur 0;"), 9);
        for (int i = 0; i < 2; i++) {
            Due.is(x.fault(0), 4);
            Due.is(x.fault(1), 11);
            Due.is(x.fault(2), NONE);
            Due.is(x.fault(-1), NONE);
            Due.is(x.fault(Due.LEAST), NONE);
            Due.is(x.fault(Due.GREATEST), NONE);
            // fault() has no STATUS; a load() with STATUS 1 is not told of.
            Due.is(x.status(), i == 0 ? 9 : 1);
            Due.no(x, x.load(5), 1);
        }
        Calls.load(x, "leaf a;");
        Due.is(x.fault(0), 0);
        Due.is(x.fault(1), NONE);
        Due.is(x.fault(2), NONE);
        // An undo() doesn't take back what fault() tells.
        x.undo();
        Due.is(x.fault(0), 0);
        Due.no(x, Calls.load(x, "leaf"), 9);
        Due.is(x.fault(0), 2);
        Due.is(x.fault(1), 4);
    }
}
