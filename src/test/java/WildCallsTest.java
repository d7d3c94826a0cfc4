import java.util.Random;

/** Any numbers in any state: no call throws, each gives NONE with every STATUS but 0, and a refused one changes nothing. */
public final class WildCallsTest {
    private static final int RUNS = 400;
    private static final int CALLS = 512;
    private static final int[] ODD = {Integer.MIN_VALUE, Integer.MIN_VALUE + 1, -2001, -2, -1, 0, 1, 2, 3, 4, 5, 6, 7, 8,
        9, 10, 11, 12, 13, 18, 19, 20, 21, 63, 64, 65, 200, 201, 599, 600, 601, 998, 999, 1000, 1998, 1999, 2000,
        2001, 65536, 715827882, 1 << 30, Integer.MAX_VALUE - 1, Integer.MAX_VALUE};

    private WildCallsTest() { }

    public static void main(String[] args) {
        int wrong = 0;
        for (int run = 0; run < RUNS && wrong == 0; run++) {
            wrong += go(new Random(run), run) ? 0 : 1;
        }
        wrong += hugeShow() ? 0 : 1;
        System.out.println(wrong == 0 ? "nothing threw" : "some calls went wrong");
        System.exit(wrong == 0 ? 0 : 1);
    }

    private static boolean go(Random random, int run) {
        NestedClips x = new NestedClips();
        String call = "";
        try {
            for (int i = 0; i < CALLS; i++) {
                String name = Calls.NAMES[random.nextInt(Calls.NAMES.length)];
                if (random.nextInt(12) == 0) {
                    Calls.load(x, new Texts(random).show());
                }
                int[] a = new int[5];
                for (int k = 0; k < a.length; k++) {
                    a[k] = random.nextInt(3) == 0 ? ODD[random.nextInt(ODD.length)] : random.nextInt(12) - 1;
                }
                call = name + java.util.Arrays.toString(a);
                int acts = x.many(3);
                int answer = Calls.call(x, name, a);
                int status = x.status();
                boolean refused = status != 0;
                if (status < 0 || status > 9 || refused && answer != NestedClips.NONE
                        || refused && x.many(3) != acts) {
                    System.out.println("run " + run + ": " + call + " answered " + answer + ", STATUS " + status);
                    return false;
                }
            }
            return true;
        } catch (RuntimeException | Error thrown) {
            System.out.println("run " + run + ": " + call + " threw " + thrown);
            return false;
        }
    }

    /** The longest CLIPS that can be, in a ROOT that is cut: no number runs over. */
    private static boolean hugeShow() {
        NestedClips x = new NestedClips();
        Calls.load(x, "seq a back cut 999 times 9 rate 4 hold (seq b at 999 times 9 hold back (seq c at 999 times 9 back"
                + " (seq d at 999 times 9 back hold (leaf e at 999 dur 999 times 9; leaf f at 999 dur 999 times 9;"
                + " leaf g at 999 dur 999 times 9; leaf h at 999 dur 999 times 9; leaf i at 999 dur 999 times 9;"
                + " leaf j at 999 dur 999 times 9; leaf k at 999 dur 999 times 9;"
                + " leaf l at 999 dur 999 times 9 hold back in 20 out 20;))))");
        boolean right = x.fault(0) == 0;
        long d = 9990L * 8;
        long c = 999 + d * 9;
        long b = 999 + c * 9;
        long a = 999 + b * 9;
        right &= x.clip(3, 13) == d && x.clip(2, 13) == c && x.clip(1, 13) == b && x.clip(0, 13) == a;
        right &= x.local(0, 0) == a - 1 && x.local(0, 998) == a - 1 - 998 * 4 && x.local(0, 1999) == a - 1 - 998 * 4;
        right &= x.state(1, 0) == 2 && x.local(1, 0) == b - 1 - (a - 1 - 999) % b && x.pass(1, 0) == 8;
        for (int clip = 0; clip < 12; clip++) {
            for (int time = 0; time <= 1999; time++) {
                right &= x.strength(clip, time) >= 0 && x.strength(clip, time) <= 100;
                right &= x.local(clip, time) >= 0 || x.status() == 8;
            }
            right &= x.pieces(clip) >= 0 && x.frames(clip) >= 0 && x.fit(clip, 0, 999) >= NestedClips.NONE;
        }
        if (!right) {
            System.out.println("a number ran over in a huge show");
        }
        return right;
    }
}
