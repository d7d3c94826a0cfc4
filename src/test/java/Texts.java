import java.util.ArrayList;
import java.util.List;
import java.util.Random;

/** SHOWS by chance, some of them with FAULTS. */
final class Texts {
    private static final String[] ODD = {"leaf", "par", "seq", "dur", "rate", "times", "cut", "back", "hold",
        "layer", "in", "out", "at", "with", "behind", "press", "(", ")", ";", "0", "3", "12", "999", "1000",
        "0007", "12345", "a", "b", "abcdefgh", "abcdefghi", "!", "\t", "A", "\u00e9"};

    private final Random random;
    private final List<String> tokens = new ArrayList<>();
    private final int most;
    private int clips;

    Texts(Random random) {
        this.random = random;
        most = random.nextInt(15) == 0 ? 14 : 3 + random.nextInt(10);
    }

    String show() {
        addClip(0, 0, false);
        if (random.nextInt(5) == 0) {
            spoil();
        }
        StringBuilder text = new StringBuilder();
        for (String token : tokens) {
            char before = text.length() == 0 ? ' ' : text.charAt(text.length() - 1);
            boolean touches = isLetter(before) && isLetter(token.charAt(0))
                    || isDigit(before) && isDigit(token.charAt(0));
            if (touches || random.nextInt(4) > 0) {
                text.append(random.nextInt(6) == 0 ? "\n" : " ");
            }
            text.append(token);
        }
        if (random.nextInt(6) == 0) {
            text.append("  ");
        }
        return text.length() > 600 ? text.substring(0, 600) : text.toString();
    }

    private static boolean isLetter(char sign) {
        return sign >= 'a' && sign <= 'z';
    }

    private static boolean isDigit(char sign) {
        return sign >= '0' && sign <= '9';
    }

    private void spoil() {
        int at = random.nextInt(tokens.size());
        String odd = ODD[random.nextInt(ODD.length)];
        int kind = random.nextInt(4);
        if (kind == 0) {
            tokens.remove(at);
        } else if (kind == 1) {
            tokens.add(at, odd);
        } else if (kind == 2) {
            tokens.set(at, odd);
        } else {
            tokens.subList(at, tokens.size()).clear();
        }
    }

    private void put(String... put) {
        tokens.addAll(List.of(put));
    }

    private String name(int number) {
        return "n" + (char) ('a' + number);
    }

    private void mark(String word, int least, int most) {
        if (random.nextInt(5) > 0) {
            return;
        }
        boolean wild = random.nextInt(200) == 0;
        put(word, String.valueOf(wild ? random.nextInt(1010) : least + random.nextInt(most - least + 1)));
        if (random.nextInt(400) == 0) {
            put(word, "1");
        }
    }

    private void addMarks(boolean inPar, int firstSibling) {
        mark("dur", 1, 25);
        mark("rate", 1, 4);
        mark("times", 1, 4);
        mark("cut", 1, 12);
        mark("layer", 0, 3);
        mark("in", 0, 6);
        mark("out", 0, 6);
        if (random.nextInt(5) == 0) {
            put("back");
        }
        if (random.nextInt(4) == 0) {
            put("hold");
        }
        int how = random.nextInt(inPar || random.nextInt(300) == 0 ? 7 : 2);
        String number = String.valueOf(random.nextInt(200) == 0 ? random.nextInt(1010) : random.nextInt(7));
        if (how == 1) {
            put("at", number);
        } else if (how == 2 || how == 5) {
            put("press", String.valueOf(random.nextInt(random.nextInt(50) == 0 ? 6 : 2)));
        } else if (how == 3 || how == 4) {
            // A sibling most of the time: the first one within the same, or the one that comes next.
            int other = random.nextInt(40) == 0 ? random.nextInt(12) : random.nextInt(4) == 0 && clips < most ? clips : firstSibling;
            put(how == 3 ? "with" : "behind", name(other), number);
        }
    }

    private int anyInner() {
        return random.nextInt(3) == 0 ? 2 : 1;
    }

    private void addClip(int depth, int firstSibling, boolean inPar) {
        int number = clips;
        clips++;
        int kind = depth >= 4 && random.nextInt(30) > 0 ? 0 : depth == 0 ? anyInner() : random.nextInt(2) * anyInner();
        put(kind == 0 ? "leaf" : kind == 1 ? "par" : "seq", name(number));
        boolean first = number == firstSibling;
        addMarks(inPar && (!first || random.nextInt(3) == 0), firstSibling);
        if (kind == 0) {
            put(";");
            return;
        }
        put("(");
        int inner = clips;
        boolean empty = random.nextInt(15) == 0;
        while (!empty && clips < most && (clips == inner || random.nextInt(4) > 0) && depth < 6) {
            addClip(depth + 1, inner, kind == 1);
        }
        put(")");
    }
}
