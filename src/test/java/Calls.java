/** Makes calls of NestedClips by name, for tests that choose the call while they run. */
final class Calls {
    static final String[] NAMES = {"feed", "load", "fault", "add", "lose", "move", "mark", "start", "press",
        "unpress", "undo", "many", "clip", "within", "begin", "pressed", "state", "local", "pass", "playing",
        "known", "strength", "share", "dark", "top", "seen", "brightest", "hidden", "pieces", "piece", "reach",
        "spans", "span", "ticks", "both", "when", "frames", "next", "most", "gaps", "fit", "slack", "seek",
        "play", "event"};

    private Calls() { }

    static int call(NestedClips x, String name, int[] a) {
        switch (name) {
            case "feed": return x.feed(a[0], a[1], a[2], a[3], a[4]);
            case "load": return x.load(a[0]);
            case "fault": return x.fault(a[0]);
            case "add": return x.add(a[0], a[1]);
            case "lose": return x.lose(a[0]);
            case "move": return x.move(a[0], a[1]);
            case "mark": return x.mark(a[0], a[1], a[2]);
            case "start": return x.start(a[0], a[1], a[2], a[3]);
            case "press": return x.press(a[0], a[1]);
            case "unpress": return x.unpress(a[0]);
            case "undo": return x.undo();
            case "many": return x.many(a[0]);
            case "clip": return x.clip(a[0], a[1]);
            case "within": return x.within(a[0], a[1]);
            case "begin": return x.begin(a[0]);
            case "pressed": return x.pressed(a[0], a[1]);
            case "state": return x.state(a[0], a[1]);
            case "local": return x.local(a[0], a[1]);
            case "pass": return x.pass(a[0], a[1]);
            case "playing": return x.playing(a[0], a[1] != 0);
            case "known": return x.known(a[0], a[1]);
            case "strength": return x.strength(a[0], a[1]);
            case "share": return x.share(a[0], a[1]);
            case "dark": return x.dark(a[0]);
            case "top": return x.top(a[0]);
            case "seen": return x.seen(a[0]);
            case "brightest": return x.brightest(a[0]);
            case "hidden": return x.hidden();
            case "pieces": return x.pieces(a[0]);
            case "piece": return x.piece(a[0], a[1], a[2]);
            case "reach": return x.reach(a[0], a[1], a[2]);
            case "spans": return x.spans(a[0]);
            case "span": return x.span(a[0], a[1], a[2]);
            case "ticks": return x.ticks(a[0]);
            case "both": return x.both(a[0], a[1]);
            case "when": return x.when(a[0], a[1], a[2]);
            case "frames": return x.frames(a[0]);
            case "next": return x.next(a[0]);
            case "most": return x.most(a[0]);
            case "gaps": return x.gaps();
            case "fit": return x.fit(a[0], a[1], a[2]);
            case "slack": return x.slack(a[0]);
            case "seek": return x.seek(a[0]);
            case "play": return x.play(a[0]);
            case "event": return x.event(a[0], a[1]);
            default: throw new IllegalArgumentException(name);
        }
    }

    /** The five ints of one feed() with twenty bytes of a text from a place on, zeros behind its end. */
    static int[] fed(String text, int from) {
        int[] five = new int[5];
        for (int i = 0; i < 20; i++) {
            int sign = from + i < text.length() ? text.charAt(from + i) & 255 : 0;
            five[i / 4] = five[i / 4] << 8 | sign;
        }
        return five;
    }

    static int load(NestedClips x, String text) {
        for (int from = 0; from < text.length(); from += 20) {
            call(x, "feed", fed(text, from));
        }
        return x.load(text.length());
    }
}
