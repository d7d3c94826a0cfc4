import java.util.ArrayList;
import java.util.Arrays;
import java.util.HashMap;
import java.util.HashSet;
import java.util.List;
import java.util.Map;
import java.util.Set;
import java.util.TreeSet;

/**
 * The document a second time, as near to its words as can be and with no regard for speed or room:
 * objects within objects, every TIME asked anew by recursion, every number tried. RandomRunsTest
 * compares the two.
 */
final class PlainClips {
    static final int NONE = -1;
    static final List<String> WORDS = List.of("leaf", "par", "seq", "dur", "rate", "times", "cut", "back",
            "hold", "layer", "in", "out", "at", "with", "behind", "press");

    static final class No extends RuntimeException {
        private static final long serialVersionUID = 1L;
        final int why;
        No(int why) {
            super(null, null, false, false);
            this.why = why;
        }
    }

    static final class Fault extends RuntimeException {
        private static final long serialVersionUID = 1L;
        final int kind;
        final int place;
        Fault(int kind, int place) {
            this.kind = kind;
            this.place = place;
        }
    }

    static final class Clip {
        int kind;
        Clip around;
        final List<Clip> inside = new ArrayList<>();
        int[] mark = {0, 1, 1, 0, 0, 0, 0, 0, 0};
        int how;
        Clip other;
        int much;
        String name = "";
        String by = "";

        int depth() {
            return around == null ? 0 : around.depth() + 1;
        }

        boolean open() {
            return how == 3 || other != null && other.open();
        }

        long simple() {
            if (mark[0] > 0) {
                return mark[0];
            }
            if (kind == 0) {
                return 10;
            }
            if (kind == 2) {
                return inside.isEmpty() ? 0 : inside.get(inside.size() - 1).end();
            }
            return inside.stream().filter(c -> !c.open()).mapToLong(Clip::end).max().orElse(0);
        }

        long active() {
            long whole = -Math.floorDiv(-simple() * mark[2], (long) mark[1]);
            return mark[3] > 0 ? Math.min(mark[3], whole) : whole;
        }

        /** Of a CLIP that is not OPEN. */
        long begin() {
            if (how == 1) {
                return other.begin() + much;
            }
            if (how == 2) {
                return other.end() + much;
            }
            if (around != null && around.kind == 2 && around.inside.indexOf(this) > 0) {
                return around.inside.get(around.inside.indexOf(this) - 1).end() + much;
            }
            return much;
        }

        long end() {
            return begin() + active();
        }
    }

    /** What holds of one CLIP at one TIME. */
    record Look(int state, long u, long local, long pass, Long begin) { }

    record Press(int key, int time) { }

    record Event(int kind, int time, int clip, int local) { }

    record Saved(List<Clip> clips, List<Press> presses) { }

    private List<Clip> clips = new ArrayList<>();
    private List<Press> presses = new ArrayList<>();
    private final List<Saved> past = new ArrayList<>();
    private final List<Integer> tape = new ArrayList<>();
    private final List<Event> events = new ArrayList<>();
    private final Map<Integer, Look> looked = new HashMap<>();
    private int head;
    private int fault = NONE;
    private int faultPlace = NONE;
    int status;

    /** How many CLIPS there are, asked without a call. */
    int size() {
        return clips.size();
    }

    /** How long it LASTS, asked without a call. */
    int length() {
        return (int) lasts();
    }

    int call(String name, int[] a) {
        if (name.equals("feed")) {
            return feed(a);
        }
        if (name.equals("fault")) {
            return a[0] == 0 ? fault : a[0] == 1 ? faultPlace : NONE;
        }
        try {
            int answer = answer(name, a);
            status = 0;
            return answer;
        } catch (No no) {
            status = no.why;
            return NONE;
        }
    }

    private int answer(String name, int[] a) {
        switch (name) {
            case "load": return load(a[0]);
            case "add": return add(a[0], a[1]);
            case "lose": return lose(a[0]);
            case "move": return move(a[0], a[1]);
            case "mark": return mark(a[0], a[1], a[2]);
            case "start": return start(a[0], a[1], a[2], a[3]);
            case "press": return press(a[0], a[1]);
            case "unpress": return unpress(a[0]);
            case "undo": return undo();
            case "many": return many(a[0]);
            case "clip": return clip(a[0], a[1]);
            case "within": return within(a[0], a[1]);
            case "begin": return begin(a[0]);
            case "pressed": return pressed(a[0], a[1]);
            case "playing": return playing(a[0], a[1] != 0);
            case "dark": return dark(a[0]);
            case "top": return top(a[0]);
            case "hidden": return hidden();
            case "next": return next(a[0]);
            case "most": return most(a[0]);
            case "gaps": return gaps();
            case "fit": return fit(a[0], a[1], a[2]);
            case "slack": return slack(a[0]);
            case "seek": return seek(a[0]);
            case "play": return play(a[0]);
            case "event": return event(a[0], a[1]);
            case "state": case "local": case "pass": case "known": case "strength": case "share":
                return atTime(name, a[0], a[1]);
            default: return onAllTimes(name, a);
        }
    }

    private static void no(boolean holds, int why) {
        if (holds) {
            throw new No(why);
        }
    }

    private static void range(int number, int least, int most) {
        no(number < least || number > most, 1);
    }

    private static void isTime(int time) {
        range(time, 0, 1999);
    }

    private Clip get(int clip) {
        no(clip < 0 || clip >= clips.size(), 2);
        return clips.get(clip);
    }

    private int number(Clip clip) {
        return clip == null ? NONE : clips.indexOf(clip);
    }

    private long lasts() {
        return clips.isEmpty() ? 0 : clips.get(0).end();
    }

    private List<Clip> copy() {
        List<Clip> copied = new ArrayList<>();
        for (Clip clip : clips) {
            Clip twin = new Clip();
            twin.kind = clip.kind;
            twin.mark = clip.mark.clone();
            twin.how = clip.how;
            twin.much = clip.much;
            copied.add(twin);
        }
        for (int i = 0; i < clips.size(); i++) {
            Clip clip = clips.get(i);
            copied.get(i).around = clip.around == null ? null : copied.get(number(clip.around));
            copied.get(i).other = clip.other == null ? null : copied.get(number(clip.other));
            for (Clip inner : clip.inside) {
                copied.get(i).inside.add(copied.get(number(inner)));
            }
        }
        return copied;
    }

    /** Does an ACT, and takes it back if the SHOW LASTS too long. */
    private void act(Runnable change) {
        Saved saved = new Saved(copy(), new ArrayList<>(presses));
        looked.clear();
        change.run();
        if (lasts() > 1999) {
            clips = saved.clips();
            throw new No(7);
        }
        past.add(saved);
        if (past.size() > 8) {
            past.remove(0);
        }
    }

    private int feed(int[] a) {
        if (tape.size() + 20 > 600) {
            return NONE;
        }
        for (int four : a) {
            for (int shift = 24; shift >= 0; shift -= 8) {
                tape.add(four >>> shift & 255);
            }
        }
        return tape.size();
    }

    private int load(int n) {
        range(n, 0, tape.size());
        StringBuilder text = new StringBuilder();
        for (int i = 0; i < n; i++) {
            text.append((char) tape.get(i).intValue());
        }
        tape.clear();
        try {
            List<Clip> read = new Text(text.toString()).show();
            fault = 0;
            faultPlace = NONE;
            act(() -> {
                clips = read;
                presses.clear();
            });
        } catch (Fault found) {
            fault = found.kind;
            faultPlace = found.place;
            throw new No(9);
        }
        head = 0;
        events.clear();
        return clips.size();
    }

    private int add(int kind, int around) {
        range(kind, 0, 2);
        no(clips.isEmpty() && around != NONE, 2);
        Clip outer = clips.isEmpty() ? null : get(around);
        no(clips.size() == 12 || outer != null && outer.depth() == 4, 3);
        no(outer != null && outer.kind == 0, 5);
        Clip made = new Clip();
        made.kind = kind;
        made.around = outer;
        act(() -> {
            clips.add(made);
            if (outer != null) {
                outer.inside.add(made);
            }
        });
        return clips.size() - 1;
    }

    private int lose(int clip) {
        Clip gone = get(clip);
        no(clip == 0 && clips.size() > 1, 5);
        no(clips.stream().anyMatch(c -> c.other == gone), 6);
        act(() -> {
            if (gone.around != null) {
                gone.around.inside.remove(gone);
            }
            removeAll(gone);
        });
        return clips.size();
    }

    private void removeAll(Clip clip) {
        clips.remove(clip);
        clip.inside.forEach(this::removeAll);
    }

    private int move(int clip, int place) {
        no(place < 0, 1);
        no(clip > 0 && clip < clips.size() && place >= get(clip).around.inside.size(), 1);
        Clip moved = get(clip);
        no(clip == 0, 5);
        int had = moved.around.inside.indexOf(moved);
        no(place == had, 4);
        act(() -> {
            moved.around.inside.remove(had);
            moved.around.inside.add(place, moved);
        });
        return had;
    }

    private int mark(int clip, int what, int much) {
        range(what, 0, 8);
        range(much, what == 1 || what == 2 ? 1 : 0, new int[] {999, 4, 9, 999, 1, 1, 9, 20, 20}[what]);
        Clip marked = get(clip);
        int had = marked.mark[what];
        no(had == much, 4);
        act(() -> marked.mark[what] = much);
        return had;
    }

    private int start(int clip, int how, int other, int much) {
        range(how, 0, 3);
        range(much, 0, how == 3 ? 3 : 999);
        Clip started = get(clip);
        Clip by = how == 1 || how == 2 ? get(other) : null;
        no(started.how == how && started.other == by && started.much == much, 4);
        no(how != 0 && (started.around == null || started.around.kind != 1), 5);
        no(by != null && by.around != started.around, 5);
        for (Clip at = by; at != null; at = at.other) {
            no(at == started, 6);
        }
        int had = started.how;
        act(() -> {
            started.how = how;
            started.other = by;
            started.much = much;
        });
        return had;
    }

    private int press(int key, int time) {
        range(key, 0, 3);
        isTime(time);
        no(presses.size() == 6, 3);
        no(presses.contains(new Press(key, time)), 4);
        act(() -> presses.add(new Press(key, time)));
        return presses.size();
    }

    private int unpress(int i) {
        no(i < 0, 1);
        no(i >= presses.size(), 8);
        act(() -> presses.remove(i));
        return presses.size();
    }

    private int undo() {
        no(past.isEmpty(), 8);
        Saved saved = past.remove(past.size() - 1);
        clips = saved.clips();
        presses = saved.presses();
        looked.clear();
        return past.size();
    }

    private int many(int what) {
        range(what, 0, 9);
        switch (what) {
            case 0: return clips.size();
            case 1: return (int) clips.stream().filter(c -> c.kind == 0).count();
            case 2: return presses.size();
            case 3: return past.size();
            case 4: return (int) lasts();
            case 5: return head;
            case 6: return (int) clips.stream().filter(Clip::open).count();
            case 7: {
                int found = 0;
                for (int time = 1; time < 2000; time++) {
                    found += changes(time) ? 1 : 0;
                }
                return found;
            }
            case 8: return events.size();
            default: return tape.size();
        }
    }

    private int clip(int clip, int what) {
        range(what, 0, 18);
        Clip of = get(clip);
        switch (what) {
            case 0: return of.kind;
            case 1: return number(of.around);
            case 2: return of.around == null ? 0 : of.around.inside.indexOf(of);
            case 3: return of.inside.size();
            case 10: return of.how;
            case 11: return number(of.other);
            case 12: return of.much;
            case 13: return (int) of.simple();
            case 14: return (int) of.active();
            case 15: return of.open() ? 1 : 0;
            default: return of.mark[what >= 16 ? what - 10 : what - 4];
        }
    }

    private int within(int clip, int i) {
        no(i < 0, 1);
        Clip of = get(clip);
        no(i >= of.inside.size(), 8);
        return number(of.inside.get(i));
    }

    private int begin(int clip) {
        Clip of = get(clip);
        no(of.open(), 8);
        return (int) of.begin();
    }

    private int pressed(int i, int what) {
        no(i < 0, 1);
        range(what, 0, 1);
        no(i >= presses.size(), 8);
        return what == 0 ? presses.get(i).key() : presses.get(i).time();
    }

    private Look look(Clip clip, int time) {
        int key = number(clip) * 2000 + time;
        Look known = looked.get(key);
        if (known == null) {
            known = lookAnew(clip, time);
            looked.put(key, known);
        }
        return known;
    }

    private static boolean runs(Look look) {
        return look.state() == 2 || look.state() == 3;
    }

    private Look lookAnew(Clip clip, int time) {
        long t = time;
        if (clip.around != null) {
            Look outer = look(clip.around, time);
            if (!runs(outer)) {
                return new Look(0, 0, 0, 0, null);
            }
            t = outer.local();
        }
        Long begin = known(clip, time);
        if (begin == null || begin > t) {
            return new Look(1, 0, 0, 0, begin);
        }
        long active = clip.active();
        int state = t < begin + active ? 2 : clip.mark[5] == 1 && active > 0 ? 3 : 4;
        if (state == 4) {
            return new Look(4, 0, 0, 0, begin);
        }
        long u = state == 2 ? t - begin : active - 1;
        long pass = u * clip.mark[1] / clip.simple();
        long left = u * clip.mark[1] - pass * clip.simple();
        return new Look(state, u, clip.mark[4] == 1 ? clip.simple() - 1 - left : left, pass, begin);
    }

    private Long known(Clip clip, int time) {
        if (clip.how == 0) {
            return clip.begin();
        }
        if (clip.how == 3) {
            return byPress(clip, time);
        }
        Long other = known(clip.other, time);
        return other == null ? null : other + clip.much + (clip.how == 2 ? clip.other.active() : 0);
    }

    private Long byPress(Clip clip, int time) {
        for (int then = 0; then <= time; then++) {
            if (presses.contains(new Press(clip.much, then)) && look(clip.around, then).state() == 2
                    && passes(clip.around, then).equals(passes(clip.around, time))) {
                return look(clip.around, then).local();
            }
        }
        return null;
    }

    private List<Long> passes(Clip clip, int time) {
        List<Long> passes = new ArrayList<>();
        for (Clip at = clip; at != null; at = at.around) {
            passes.add(look(at, time).pass());
        }
        return passes;
    }

    private long strength(Clip clip, int time) {
        Look look = look(clip, time);
        if (!runs(look)) {
            return 0;
        }
        long in = (look.u() + 1) * 100 / (clip.mark[7] + 1);
        long out = (clip.active() - look.u()) * 100 / (clip.mark[8] + 1);
        long around = clip.around == null ? 100 : strength(clip.around, time);
        return Math.min(100, Math.min(in, out)) * around / 100;
    }

    private List<Clip> standing() {
        List<Clip> leaves = new ArrayList<>(clips);
        leaves.removeIf(c -> c.kind != 0);
        leaves.sort((a, b) -> a.mark[6] != b.mark[6] ? b.mark[6] - a.mark[6] : number(b) - number(a));
        return leaves;
    }

    /** SHARES of the LEAVES as they stand, and what is DARK behind them. */
    private List<Long> shares(int time) {
        List<Long> shares = new ArrayList<>();
        long light = 100;
        for (Clip leaf : standing()) {
            long share = light * strength(leaf, time) / 100;
            shares.add(share);
            light -= share;
        }
        shares.add(light);
        return shares;
    }

    private int share(Clip leaf, int time) {
        return (int) (long) shares(time).get(standing().indexOf(leaf));
    }

    private int atTime(String name, int clip, int time) {
        isTime(time);
        Clip of = get(clip);
        Look look = look(of, time);
        switch (name) {
            case "state": return look.state();
            case "strength": return (int) strength(of, time);
            case "share":
                no(of.kind != 0, 5);
                return share(of, time);
            case "known":
                no(look.begin() == null, 8);
                return (int) (long) look.begin();
            default:
                no(!runs(look), 8);
                return (int) (name.equals("local") ? look.local() : look.pass());
        }
    }

    private int bits(int time, int state) {
        int bits = 0;
        for (Clip clip : clips) {
            bits |= look(clip, time).state() == state ? 1 << number(clip) : 0;
        }
        return bits;
    }

    private int playing(int time, boolean frozen) {
        isTime(time);
        return bits(time, frozen ? 3 : 2);
    }

    private int dark(int time) {
        isTime(time);
        List<Long> shares = shares(time);
        return (int) (long) shares.get(shares.size() - 1);
    }

    private int top(int time) {
        isTime(time);
        List<Clip> standing = standing();
        List<Long> shares = shares(time).subList(0, standing.size());
        long greatest = shares.stream().mapToLong(s -> s).max().orElse(0);
        no(greatest == 0, 8);
        return number(standing.get(shares.indexOf(greatest)));
    }

    private int hidden() {
        int bits = 0;
        for (Clip leaf : standing()) {
            boolean plays = !playedTimes(leaf).isEmpty();
            boolean seen = false;
            for (int time = 0; time < 2000 && plays && !seen; time++) {
                seen = share(leaf, time) > 0;
            }
            bits |= plays && !seen ? 1 << number(leaf) : 0;
        }
        return bits;
    }

    private List<Integer> playedTimes(Clip clip) {
        List<Integer> times = new ArrayList<>();
        for (int time = 0; time < 2000; time++) {
            if (look(clip, time).state() == 2) {
                times.add(time);
            }
        }
        return times;
    }

    private int unlike(Clip clip, List<Integer> times) {
        Set<Long> locals = new HashSet<>();
        times.forEach(time -> locals.add(look(clip, time).local()));
        return locals.size();
    }

    private List<List<Integer>> spans(Clip clip) {
        List<List<Integer>> spans = new ArrayList<>();
        for (int time : playedTimes(clip)) {
            if (time == 0 || look(clip, time - 1).state() != 2) {
                spans.add(new ArrayList<>());
            }
            spans.get(spans.size() - 1).add(time);
        }
        return spans;
    }

    private long step(Clip clip, int from, int to) {
        return look(clip, to).local() - look(clip, from).local();
    }

    private List<List<Integer>> pieces(Clip clip) {
        List<List<Integer>> pieces = new ArrayList<>();
        for (List<Integer> span : spans(clip)) {
            int at = 0;
            while (at < span.size()) {
                int end = at + 1;
                while (end < span.size() && step(clip, span.get(end - 1), span.get(end))
                        == step(clip, span.get(at), span.get(at + 1))) {
                    end++;
                }
                pieces.add(span.subList(at, end));
                at = end;
            }
        }
        return pieces;
    }

    private int onAllTimes(String name, int[] a) {
        switch (name) {
            case "piece":
                no(a[1] < 0, 1);
                range(a[2], 0, 3);
                break;
            case "span":
                no(a[1] < 0, 1);
                range(a[2], 0, 2);
                break;
            case "reach": case "when":
                no(a[1] < 0 || a[2] < 0, 1);
                break;
            default:
                break;
        }
        Clip of = get(a[0]);
        switch (name) {
            case "seen": case "brightest": return brightness(name, of);
            case "pieces": return pieces(of).size();
            case "piece": return piece(of, a[1], a[2]);
            case "reach": return reach(of, a[1], a[2]);
            case "spans": return spans(of).size();
            case "span": {
                no(a[1] >= spans(of).size(), 8);
                List<Integer> span = spans(of).get(a[1]);
                return a[2] == 2 ? unlike(of, span) : span.get(a[2] == 0 ? 0 : span.size() - 1);
            }
            case "ticks": return playedTimes(of).size();
            case "both": {
                Set<Integer> times = new HashSet<>(playedTimes(of));
                times.retainAll(playedTimes(get(a[1])));
                return times.size();
            }
            case "when": {
                List<Integer> times = playedTimes(of);
                times.removeIf(time -> look(of, time).local() != a[1]);
                no(a[2] >= times.size(), 8);
                return times.get(a[2]);
            }
            case "frames": return unlike(of, playedTimes(of));
            default: throw new IllegalStateException(name + Arrays.toString(a));
        }
    }

    private int brightness(String name, Clip of) {
        no(of.kind != 0, 5);
        int seen = 0;
        int best = NONE;
        int greatest = 0;
        for (int time = 0; time < 2000; time++) {
            int share = share(of, time);
            seen += share > 0 ? 1 : 0;
            if (share > greatest) {
                greatest = share;
                best = time;
            }
        }
        if (name.equals("seen")) {
            return seen;
        }
        no(best == NONE, 8);
        return best;
    }

    private int piece(Clip of, int i, int what) {
        no(i >= pieces(of).size(), 8);
        List<Integer> piece = pieces(of).get(i);
        switch (what) {
            case 0: return piece.get(0);
            case 1: return piece.get(piece.size() - 1);
            case 2: return piece.size() == 1 ? 0 : (int) step(of, piece.get(0), piece.get(1));
            default: return (int) look(of, piece.get(0)).local();
        }
    }

    private int reach(Clip of, int i, int local) {
        int step = piece(of, i, 2);
        for (int time : pieces(of).get(i)) {
            long at = look(of, time).local();
            if (step > 0 ? at >= local : step < 0 ? at <= local : at == local) {
                return time;
            }
        }
        throw new No(8);
    }

    private boolean changes(int time) {
        return clips.stream().anyMatch(c -> look(c, time).state() != look(c, time - 1).state());
    }

    private int next(int time) {
        isTime(time);
        for (int later = time + 1; later < 2000; later++) {
            if (changes(later)) {
                return later;
            }
        }
        throw new No(8);
    }

    private int leavesPlaying(int time) {
        return (int) clips.stream().filter(c -> c.kind == 0 && look(c, time).state() == 2).count();
    }

    private int most(int what) {
        range(what, 0, 1);
        int best = 0;
        for (int time = 1; time < 2000; time++) {
            best = leavesPlaying(time) > leavesPlaying(best) ? time : best;
        }
        return what == 0 ? leavesPlaying(best) : best;
    }

    private int gaps() {
        int gaps = 0;
        for (int time = 0; time < lasts(); time++) {
            gaps += leavesPlaying(time) == 0 ? 1 : 0;
        }
        return gaps;
    }

    private int fit(int clip, int what, int lasts) {
        range(what, 0, 2);
        isTime(lasts);
        Clip of = get(clip);
        int had = of.mark[what];
        TreeSet<Integer> fitting = new TreeSet<>();
        for (int number = 1; number <= (what == 0 ? 999 : what == 1 ? 4 : 9) && fitting.isEmpty(); number++) {
            of.mark[what] = number;
            if (lasts() == lasts) {
                fitting.add(number);
            }
        }
        of.mark[what] = had;
        no(fitting.isEmpty(), 8);
        return fitting.first();
    }

    private int slack(int clip) {
        Clip of = get(clip);
        no(of.how != 0, 5);
        int had = of.much;
        long lasts = lasts();
        int longer = had + 1;
        for (; longer <= 999; longer++) {
            of.much = longer;
            if (lasts() > lasts) {
                break;
            }
        }
        of.much = had;
        no(longer > 999, 8);
        return longer - had - 1;
    }

    private int seek(int time) {
        isTime(time);
        head = time;
        return bits(time, 2);
    }

    private int play(int n) {
        range(n, 1, 200);
        isTime(head + n);
        events.clear();
        for (int i = 0; i < n; i++) {
            head++;
            for (Clip clip : clips) {
                Look ahead = look(clip, head - 1);
                Look look = look(clip, head);
                boolean did = ahead.state() == 2;
                boolean does = look.state() == 2;
                if (does && !did) {
                    events.add(new Event(0, head, number(clip), (int) look.local()));
                }
                if (did && !does) {
                    events.add(new Event(1, head, number(clip), NONE));
                }
                if (did && does && ahead.pass() != look.pass()) {
                    events.add(new Event(2, head, number(clip), (int) look.local()));
                }
            }
        }
        return events.size();
    }

    private int event(int i, int what) {
        range(i, 0, 63);
        range(what, 0, 3);
        no(i >= events.size(), 8);
        Event event = events.get(i);
        return what == 0 ? event.kind() : what == 1 ? event.time() : what == 2 ? event.clip() : event.local();
    }

    /** Reads a SHOW by recursion. */
    private static final class Text {
        private final String text;
        private int at;
        private final List<Clip> clips = new ArrayList<>();

        Text(String text) {
            this.text = text;
        }

        List<Clip> show() {
            readClip(null);
            if (!peek().isEmpty()) {
                throw new Fault(2, at);
            }
            if (clips.get(0).end() > 1999) {
                throw new Fault(8, text.length());
            }
            return clips;
        }

        /** The next TOKEN, an empty text at the end; it leaves the place at the TOKEN's first byte. */
        private String peek() {
            while (at < text.length() && (text.charAt(at) == ' ' || text.charAt(at) == '\n')) {
                at++;
            }
            String rest = text.substring(at);
            if (rest.isEmpty()) {
                return "";
            }
            if (rest.matches("(?s)[a-z].*")) {
                return rest.replaceAll("(?s)^([a-z]+).*$", "$1");
            }
            if (rest.matches("(?s)[0-9].*")) {
                String digits = rest.replaceAll("(?s)^([0-9]+).*$", "$1");
                if (digits.length() > 4) {
                    throw new Fault(1, at);
                }
                return digits;
            }
            if ("();".indexOf(rest.charAt(0)) < 0) {
                throw new Fault(1, at);
            }
            return rest.substring(0, 1);
        }

        private void take(String token) {
            at += token.length();
        }

        private void must(boolean holds, int kind) {
            if (!holds) {
                throw new Fault(kind, at);
            }
        }

        private String name() {
            String name = peek();
            must(name.matches("[a-z]{1,8}") && !WORDS.contains(name), 2);
            return name;
        }

        private int numberBetween(int least, int most) {
            String digits = peek();
            must(digits.matches("[0-9]+"), 2);
            int number = Integer.parseInt(digits);
            must(number >= least && number <= most, 4);
            take(digits);
            return number;
        }

        private void readClip(Clip around) {
            String word = peek();
            int kind = WORDS.indexOf(word);
            must(kind >= 0 && kind <= 2, 2);
            must(clips.size() < 12 && (around == null || around.depth() < 4), 6);
            take(word);
            Clip clip = new Clip();
            clip.kind = kind;
            clip.around = around;
            String name = name();
            must(clips.stream().noneMatch(c -> c.name.equals(name)), 3);
            clip.name = name;
            take(name);
            clips.add(clip);
            if (around != null) {
                around.inside.add(clip);
            }
            readMarks(clip);
            must(peek().equals(kind == 0 ? ";" : "("), 2);
            at++;
            if (kind > 0) {
                while (!peek().equals(")")) {
                    readClip(clip);
                }
                if (kind == 1) {
                    closePar(clip);
                }
                at++;
            }
        }

        private void readMarks(Clip clip) {
            Set<String> had = new HashSet<>();
            while (peek().matches("[a-z]+")) {
                String word = peek();
                int what = WORDS.indexOf(word);
                must(what >= 3, 2);
                must(had.add(what >= 12 ? "start" : word), 5);
                must(what < 13 || clip.around != null && clip.around.kind == 1, 5);
                take(word);
                if (what >= 12) {
                    clip.how = what - 12;
                    if (what == 13 || what == 14) {
                        clip.by = name();
                        take(clip.by);
                    }
                    clip.much = numberBetween(0, what == 15 ? 3 : 999);
                } else if (what == 7 || what == 8) {
                    clip.mark[what - 3] = 1;
                } else {
                    int least = what <= 6 ? 1 : 0;
                    clip.mark[what - 3] = numberBetween(least, new int[] {999, 4, 9, 999, 0, 0, 9, 20, 20}[what - 3]);
                }
            }
        }

        private void closePar(Clip par) {
            for (Clip clip : par.inside) {
                for (Clip other : par.inside) {
                    if (other != clip && other.name.equals(clip.by)) {
                        clip.other = other;
                    }
                }
                must(clip.by.isEmpty() || clip.other != null, 3);
            }
            for (Clip clip : par.inside) {
                Set<Clip> passed = new HashSet<>();
                for (Clip at = clip; at != null; at = at.other) {
                    must(passed.add(at), 7);
                }
            }
        }
    }
}
