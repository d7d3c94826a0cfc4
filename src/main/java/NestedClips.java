/**
 * Clips within clips on one line of time. The words in capitals are those of the document (DOC.md):
 * each public method keeps the promise that bears its name.
 */
public final class NestedClips {
    public static final int NONE = -1;

    private static final int MOST_CLIPS = 12;
    private static final int MOST_AROUND = 4;
    private static final int MOST_PRESSES = 6;
    private static final int MOST_UNDONE = 8;
    private static final int MOST_BYTES = 600;
    private static final int MOST_EVENTS = 64;
    private static final int MOST_PLAYED = 200;
    private static final int MOST_TOLD = 999;
    private static final int LAST_KEY = 3;
    private static final int LAST_TIME = 1999;
    private static final int WHOLE = 100;
    /** So often halved, 1 to 1,000 leaves one number. */
    private static final int HALVINGS = 10;

    private static final int LEAF = 0;
    private static final int PAR = 1;
    private static final int SEQ = 2;
    private static final int LEAF_LENGTH = 10;

    private static final int DUR = 0;
    private static final int RATE = 1;
    private static final int TIMES = 2;
    private static final int CUT = 3;
    private static final int BACK = 4;
    private static final int HOLD = 5;
    private static final int LAYER = 6;
    private static final int IN = 7;
    private static final int OUT = 8;
    private static final int MARKS = 9;
    private static final int[] MARK_LEAST = {0, 1, 1, 0, 0, 0, 0, 0, 0};
    private static final int[] MARK_MOST = {999, 4, 9, 999, 1, 1, 9, 20, 20};
    /** A SHOW can't tell the 0 of DUR and CUT that means "none told". */
    private static final int[] TOLD_LEAST = {1, 1, 1, 1, 0, 0, 0, 0, 0};

    private static final int AT = 0;
    private static final int WITH = 1;
    private static final int BEHIND = 2;
    private static final int PRESS = 3;

    private static final int AWAY = 0;
    private static final int WAITS = 1;
    private static final int PLAYS = 2;
    private static final int FROZEN = 3;
    private static final int OVER = 4;

    private static final int WRONG_NUMBER = 1;
    private static final int NO_CLIP = 2;
    private static final int TOO_MANY = 3;
    private static final int SO_ALREADY = 4;
    private static final int NOT_THERE = 5;
    private static final int RING = 6;
    private static final int TOO_LONG = 7;
    private static final int THERE_IS_NONE = 8;
    private static final int FAULT = 9;

    private final Show show;
    /** Each ACT is tried here, so that one that is refused leaves no trace. */
    private final Show draft;
    private final Layout layout;
    private final Layout trial;
    private final Stage stage;
    private final Stretch stretch;
    private final Past past;
    private final Tape tape;
    private final Reader reader;
    private final Reel reel;
    private int status;
    private int fault;
    private int faultPlace;

    public NestedClips() {
        show = new Show();
        draft = new Show();
        layout = new Layout();
        trial = new Layout();
        stage = new Stage(show, layout);
        stretch = new Stretch(stage);
        past = new Past();
        tape = new Tape();
        reader = new Reader(tape, draft, trial);
        reel = new Reel();
        status = 0;
        fault = NONE;
        faultPlace = NONE;
        stage.prepare();
    }

    public int status() {
        return status;
    }

    public int feed(int a, int b, int c, int d, int e) {
        if (tape.length + 20 > MOST_BYTES) {
            return NONE;
        }
        tape.putInt(a);
        tape.putInt(b);
        tape.putInt(c);
        tape.putInt(d);
        tape.putInt(e);
        return tape.length;
    }

    public int load(int n) {
        if (n < 0 || n > tape.length) {
            return refuse(WRONG_NUMBER);
        }
        reader.read(n);
        tape.length = 0;
        fault = reader.fault;
        faultPlace = reader.place;
        if (fault != 0) {
            return refuse(FAULT);
        }
        reel.rewind();
        return act(draft.clips);
    }

    public int fault(int what) {
        return what == 0 ? fault : what == 1 ? faultPlace : NONE;
    }

    public int add(int kind, int around) {
        if (kind < LEAF || kind > SEQ) {
            return refuse(WRONG_NUMBER);
        }
        if (show.clips == 0 ? around != NONE : !show.has(around)) {
            return refuse(NO_CLIP);
        }
        if (show.clips >= MOST_CLIPS || show.howManyAroundNew(around) > MOST_AROUND) {
            return refuse(TOO_MANY);
        }
        if (around != NONE && show.kind[around] == LEAF) {
            return refuse(NOT_THERE);
        }
        draft.copyFrom(show);
        return act(draft.append(kind, around));
    }

    public int lose(int clip) {
        if (!show.has(clip)) {
            return refuse(NO_CLIP);
        }
        if (clip == 0 && show.clips > 1) {
            return refuse(NOT_THERE);
        }
        if (show.startsAnother(clip)) {
            return refuse(RING);
        }
        draft.copyFrom(show);
        draft.drop(clip);
        return act(draft.clips);
    }

    public int move(int clip, int place) {
        if (place < 0 || show.has(clip) && clip != 0 && place >= show.howManyIn(show.around[clip])) {
            return refuse(WRONG_NUMBER);
        }
        if (!show.has(clip)) {
            return refuse(NO_CLIP);
        }
        // The ROOT is among none, so no place is its own already.
        if (clip == 0) {
            return refuse(NOT_THERE);
        }
        if (place == show.place[clip]) {
            return refuse(SO_ALREADY);
        }
        draft.copyFrom(show);
        draft.shift(clip, place);
        return act(show.place[clip]);
    }

    public int mark(int clip, int what, int much) {
        if (what < 0 || what >= MARKS || much < MARK_LEAST[what] || much > MARK_MOST[what]) {
            return refuse(WRONG_NUMBER);
        }
        if (!show.has(clip)) {
            return refuse(NO_CLIP);
        }
        int before = show.markOf(clip, what);
        if (before == much) {
            return refuse(SO_ALREADY);
        }
        draft.copyFrom(show);
        draft.putMark(clip, what, much);
        return act(before);
    }

    public int start(int clip, int how, int other, int much) {
        if (how < AT || how > PRESS || much < 0 || much > (how == PRESS ? LAST_KEY : MOST_TOLD)) {
            return refuse(WRONG_NUMBER);
        }
        boolean byAnother = how == WITH || how == BEHIND;
        if (!show.has(clip) || byAnother && !show.has(other)) {
            return refuse(NO_CLIP);
        }
        int by = byAnother ? other : NONE;
        int before = show.how[clip];
        if (before == how && show.other[clip] == by && show.much[clip] == much) {
            return refuse(SO_ALREADY);
        }
        if (how != AT && !show.isInPar(clip) || byAnother && show.around[other] != show.around[clip]) {
            return refuse(NOT_THERE);
        }
        if (byAnother && show.startLeadsTo(other, clip)) {
            return refuse(RING);
        }
        draft.copyFrom(show);
        draft.putStart(clip, how, by, much);
        return act(before);
    }

    public int press(int key, int time) {
        if (key < 0 || key > LAST_KEY || !isTime(time)) {
            return refuse(WRONG_NUMBER);
        }
        if (show.presses >= MOST_PRESSES) {
            return refuse(TOO_MANY);
        }
        if (show.hasPress(key, time)) {
            return refuse(SO_ALREADY);
        }
        draft.copyFrom(show);
        draft.appendPress(key, time);
        return act(draft.presses);
    }

    public int unpress(int i) {
        if (i < 0) {
            return refuse(WRONG_NUMBER);
        }
        if (i >= show.presses) {
            return refuse(THERE_IS_NONE);
        }
        draft.copyFrom(show);
        draft.dropPress(i);
        return act(draft.presses);
    }

    public int undo() {
        if (past.many == 0) {
            return refuse(THERE_IS_NONE);
        }
        past.bringBack(show);
        stage.prepare();
        return give(past.many);
    }

    public int many(int what) {
        switch (what) {
            case 0:
                return give(show.clips);
            case 1:
                return give(show.leaves());
            case 2:
                return give(show.presses);
            case 3:
                return give(past.many);
            case 4:
                return give(layout.lasts);
            case 5:
                return give(reel.time);
            case 6:
                return give(layout.howManyOpen(show.clips));
            case 7:
                return give(changes());
            case 8:
                return give(reel.events);
            case 9:
                return give(tape.length);
            default:
                return refuse(WRONG_NUMBER);
        }
    }

    public int clip(int clip, int what) {
        if (what < 0 || what > 18) {
            return refuse(WRONG_NUMBER);
        }
        if (!show.has(clip)) {
            return refuse(NO_CLIP);
        }
        if (what >= 4 && what <= 9) {
            return give(show.markOf(clip, what - 4));
        }
        if (what >= 16) {
            return give(show.markOf(clip, what - 16 + LAYER));
        }
        switch (what) {
            case 0:
                return give(show.kind[clip]);
            case 1:
                return give(show.around[clip]);
            case 2:
                return give(show.place[clip]);
            case 3:
                return give(show.howManyIn(clip));
            case 10:
                return give(show.how[clip]);
            case 11:
                return give(show.other[clip]);
            case 12:
                return give(show.much[clip]);
            case 13:
                return give(layout.simple[clip]);
            case 14:
                return give(layout.active[clip]);
            default:
                return give(layout.open[clip] ? 1 : 0);
        }
    }

    public int within(int clip, int i) {
        if (i < 0) {
            return refuse(WRONG_NUMBER);
        }
        if (!show.has(clip)) {
            return refuse(NO_CLIP);
        }
        int inner = show.childAt(clip, i);
        return inner == NONE ? refuse(THERE_IS_NONE) : give(inner);
    }

    public int begin(int clip) {
        if (!show.has(clip)) {
            return refuse(NO_CLIP);
        }
        return layout.open[clip] ? refuse(THERE_IS_NONE) : give(layout.begin[clip]);
    }

    public int pressed(int i, int what) {
        if (i < 0 || what < 0 || what > 1) {
            return refuse(WRONG_NUMBER);
        }
        if (i >= show.presses) {
            return refuse(THERE_IS_NONE);
        }
        return give(what == 0 ? show.pressKey[i] : show.pressTime[i]);
    }

    public int state(int clip, int time) {
        int why = whyNotAt(clip, time);
        return why != 0 ? refuse(why) : give(stage.at(time).state[clip]);
    }

    public int local(int clip, int time) {
        int why = whyNotRunning(clip, time);
        return why != 0 ? refuse(why) : give(stage.at(time).local[clip]);
    }

    public int pass(int clip, int time) {
        int why = whyNotRunning(clip, time);
        return why != 0 ? refuse(why) : give(stage.at(time).pass[clip]);
    }

    public int playing(int time, boolean frozen) {
        if (!isTime(time)) {
            return refuse(WRONG_NUMBER);
        }
        return give(stage.at(time).bitsOf(frozen ? FROZEN : PLAYS, show.clips));
    }

    public int known(int clip, int time) {
        int why = whyNotAt(clip, time);
        if (why != 0) {
            return refuse(why);
        }
        int known = stage.at(time).begin[clip];
        return known == NONE ? refuse(THERE_IS_NONE) : give(known);
    }

    public int strength(int clip, int time) {
        int why = whyNotAt(clip, time);
        return why != 0 ? refuse(why) : give(stage.at(time).strength[clip]);
    }

    public int share(int clip, int time) {
        int why = whyNotAt(clip, time);
        if (why != 0) {
            return refuse(why);
        }
        return show.kind[clip] != LEAF ? refuse(NOT_THERE) : give(stage.at(time).share[clip]);
    }

    public int dark(int time) {
        return isTime(time) ? give(stage.at(time).dark) : refuse(WRONG_NUMBER);
    }

    public int top(int time) {
        if (!isTime(time)) {
            return refuse(WRONG_NUMBER);
        }
        int top = stage.topAt(time);
        return top == NONE ? refuse(THERE_IS_NONE) : give(top);
    }

    public int seen(int clip) {
        int why = whyNoLeaf(clip);
        if (why != 0) {
            return refuse(why);
        }
        int seen = 0;
        for (int time = 0; time <= LAST_TIME; time++) {
            if (stage.at(time).share[clip] > 0) {
                seen++;
            }
        }
        return give(seen);
    }

    public int brightest(int clip) {
        int why = whyNoLeaf(clip);
        if (why != 0) {
            return refuse(why);
        }
        int greatest = 0;
        int found = NONE;
        for (int time = 0; time <= LAST_TIME; time++) {
            int share = stage.at(time).share[clip];
            if (share > greatest) {
                greatest = share;
                found = time;
            }
        }
        return found == NONE ? refuse(THERE_IS_NONE) : give(found);
    }

    public int hidden() {
        int played = 0;
        int seen = 0;
        for (int time = 0; time <= LAST_TIME; time++) {
            Moment moment = stage.at(time);
            played |= moment.bitsOf(PLAYS, show.clips);
            seen |= moment.bitsOfSeen(show.clips);
        }
        return give(played & ~seen & show.bitsOfLeaves());
    }

    public int pieces(int clip) {
        return show.has(clip) ? give(stretch.countPieces(clip)) : refuse(NO_CLIP);
    }

    public int piece(int clip, int i, int what) {
        if (i < 0 || what < 0 || what > 3) {
            return refuse(WRONG_NUMBER);
        }
        if (!show.has(clip)) {
            return refuse(NO_CLIP);
        }
        if (!stretch.findPiece(clip, i)) {
            return refuse(THERE_IS_NONE);
        }
        switch (what) {
            case 0:
                return give(stretch.first);
            case 1:
                return give(stretch.last);
            case 2:
                return give(stretch.step);
            default:
                return give(stretch.local);
        }
    }

    public int reach(int clip, int i, int local) {
        if (i < 0 || local < 0) {
            return refuse(WRONG_NUMBER);
        }
        if (!show.has(clip)) {
            return refuse(NO_CLIP);
        }
        int time = stretch.findPiece(clip, i) ? stretch.firstTimeAt(clip, local) : NONE;
        return time == NONE ? refuse(THERE_IS_NONE) : give(time);
    }

    public int spans(int clip) {
        return show.has(clip) ? give(stretch.countSpans(clip)) : refuse(NO_CLIP);
    }

    public int span(int clip, int i, int what) {
        if (i < 0 || what < 0 || what > 2) {
            return refuse(WRONG_NUMBER);
        }
        if (!show.has(clip)) {
            return refuse(NO_CLIP);
        }
        if (!stretch.findSpan(clip, i)) {
            return refuse(THERE_IS_NONE);
        }
        switch (what) {
            case 0:
                return give(stretch.first);
            case 1:
                return give(stretch.last);
            default:
                return give(stretch.unlikeLocals(clip, stretch.first, stretch.last));
        }
    }

    public int ticks(int clip) {
        return show.has(clip) ? give(timesOfBoth(clip, clip)) : refuse(NO_CLIP);
    }

    public int both(int clip, int other) {
        boolean there = show.has(clip) && show.has(other);
        return there ? give(timesOfBoth(clip, other)) : refuse(NO_CLIP);
    }

    public int when(int clip, int local, int i) {
        if (local < 0 || i < 0) {
            return refuse(WRONG_NUMBER);
        }
        if (!show.has(clip)) {
            return refuse(NO_CLIP);
        }
        int left = i;
        for (int time = 0; time <= LAST_TIME; time++) {
            if (stage.at(time).playedLocal(clip) == local) {
                if (left == 0) {
                    return give(time);
                }
                left--;
            }
        }
        return refuse(THERE_IS_NONE);
    }

    public int frames(int clip) {
        return show.has(clip) ? give(stretch.unlikeLocals(clip, 0, LAST_TIME)) : refuse(NO_CLIP);
    }

    public int next(int time) {
        if (!isTime(time)) {
            return refuse(WRONG_NUMBER);
        }
        long ahead = stage.at(time).allStates(show.clips);
        for (int later = time + 1; later <= LAST_TIME; later++) {
            if (stage.at(later).allStates(show.clips) != ahead) {
                return give(later);
            }
        }
        return refuse(THERE_IS_NONE);
    }

    public int most(int what) {
        if (what < 0 || what > 1) {
            return refuse(WRONG_NUMBER);
        }
        int most = 0;
        int first = 0;
        for (int time = 0; time <= LAST_TIME; time++) {
            int leaves = Integer.bitCount(leavesPlaying(time));
            if (leaves > most) {
                most = leaves;
                first = time;
            }
        }
        return give(what == 0 ? most : first);
    }

    public int gaps() {
        int gaps = 0;
        for (int time = 0; time < layout.lasts && time <= LAST_TIME; time++) {
            if (leavesPlaying(time) == 0) {
                gaps++;
            }
        }
        return give(gaps);
    }

    public int fit(int clip, int what, int lasts) {
        if (what < DUR || what > TIMES || !isTime(lasts)) {
            return refuse(WRONG_NUMBER);
        }
        if (!show.has(clip)) {
            return refuse(NO_CLIP);
        }
        int fitting = what == RATE ? leastRate(clip, lasts) : leastMark(clip, what, lasts);
        return fitting == NONE ? refuse(THERE_IS_NONE) : give(fitting);
    }

    public int slack(int clip) {
        if (!show.has(clip)) {
            return refuse(NO_CLIP);
        }
        if (show.how[clip] != AT) {
            return refuse(NOT_THERE);
        }
        int own = show.much[clip];
        int low = own + 1;
        int high = MOST_TOLD + 1;
        draft.copyFrom(show);
        // The SHOW never LASTS less by a later start, so halving finds the least number.
        for (int halving = 0; halving < HALVINGS && low < high; halving++) {
            int middle = (low + high) / 2;
            draft.much[clip] = middle;
            if (draftLasts() > layout.lasts) {
                high = middle;
            } else {
                low = middle + 1;
            }
        }
        return high > MOST_TOLD ? refuse(THERE_IS_NONE) : give(high - own - 1);
    }

    public int seek(int time) {
        if (!isTime(time)) {
            return refuse(WRONG_NUMBER);
        }
        reel.time = time;
        return give(stage.at(time).bitsOf(PLAYS, show.clips));
    }

    public int play(int n) {
        if (n < 1 || n > MOST_PLAYED || reel.time + n > LAST_TIME) {
            return refuse(WRONG_NUMBER);
        }
        reel.goOn(stage, n);
        return give(reel.events);
    }

    public int event(int i, int what) {
        if (i < 0 || i >= MOST_EVENTS || what < 0 || what > 3) {
            return refuse(WRONG_NUMBER);
        }
        if (i >= reel.events) {
            return refuse(THERE_IS_NONE);
        }
        switch (what) {
            case 0:
                return give(reel.kind[i]);
            case 1:
                return give(reel.when[i]);
            case 2:
                return give(reel.clip[i]);
            default:
                return give(reel.local[i]);
        }
    }

    private int give(int answer) {
        status = 0;
        return answer;
    }

    private int refuse(int why) {
        status = why;
        return NONE;
    }

    /** Makes the draft the SHOW, unless it would LAST too long. */
    private int act(int answer) {
        if (draftLasts() > LAST_TIME) {
            return refuse(TOO_LONG);
        }
        past.keep(show);
        show.copyFrom(draft);
        stage.prepare();
        return give(answer);
    }

    private int draftLasts() {
        trial.measure(draft);
        return trial.lasts;
    }

    private static boolean isTime(int time) {
        return time >= 0 && time <= LAST_TIME;
    }

    private int whyNotAt(int clip, int time) {
        return !isTime(time) ? WRONG_NUMBER : !show.has(clip) ? NO_CLIP : 0;
    }

    private int whyNotRunning(int clip, int time) {
        int why = whyNotAt(clip, time);
        if (why != 0) {
            return why;
        }
        return stage.at(time).runs(clip) ? 0 : THERE_IS_NONE;
    }

    private int whyNoLeaf(int clip) {
        return !show.has(clip) ? NO_CLIP : show.kind[clip] != LEAF ? NOT_THERE : 0;
    }

    private int changes() {
        int changes = 0;
        long ahead = stage.at(0).allStates(show.clips);
        for (int time = 1; time <= LAST_TIME; time++) {
            long states = stage.at(time).allStates(show.clips);
            if (states != ahead) {
                changes++;
            }
            ahead = states;
        }
        return changes;
    }

    private int timesOfBoth(int clip, int other) {
        int times = 0;
        for (int time = 0; time <= LAST_TIME; time++) {
            Moment moment = stage.at(time);
            if (moment.state[clip] == PLAYS && moment.state[other] == PLAYS) {
                times++;
            }
        }
        return times;
    }

    private int leavesPlaying(int time) {
        return stage.at(time).bitsOf(PLAYS, show.clips) & show.bitsOfLeaves();
    }

    private int lastsWithMark(int clip, int what, int much) {
        draft.putMark(clip, what, much);
        return draftLasts();
    }

    private int leastRate(int clip, int lasts) {
        draft.copyFrom(show);
        for (int rate = MARK_LEAST[RATE]; rate <= MARK_MOST[RATE]; rate++) {
            if (lastsWithMark(clip, RATE, rate) == lasts) {
                return rate;
            }
        }
        return NONE;
    }

    /** Of DUR or TIMES: with more of them the SHOW never LASTS less, so halving finds the least. */
    private int leastMark(int clip, int what, int lasts) {
        int low = 1;
        int high = MARK_MOST[what] + 1;
        draft.copyFrom(show);
        for (int halving = 0; halving < HALVINGS && low < high; halving++) {
            int middle = (low + high) / 2;
            if (lastsWithMark(clip, what, middle) >= lasts) {
                high = middle;
            } else {
                low = middle + 1;
            }
        }
        return high <= MARK_MOST[what] && lastsWithMark(clip, what, high) == lasts ? high : NONE;
    }

    /** The CLIPS and PRESSES: all that an ACT can change, and an undo() brings back. */
    private static final class Show {
        int clips;
        final int[] kind = new int[MOST_CLIPS];
        /** What is AROUND a CLIP always has a smaller number than the CLIP itself. */
        final int[] around = new int[MOST_CLIPS];
        final int[] place = new int[MOST_CLIPS];
        final int[] how = new int[MOST_CLIPS];
        final int[] other = new int[MOST_CLIPS];
        final int[] much = new int[MOST_CLIPS];
        final int[] marks = new int[MOST_CLIPS * MARKS];
        int presses;
        final int[] pressKey = new int[MOST_PRESSES];
        final int[] pressTime = new int[MOST_PRESSES];

        void copyFrom(Show from) {
            clips = from.clips;
            System.arraycopy(from.kind, 0, kind, 0, MOST_CLIPS);
            System.arraycopy(from.around, 0, around, 0, MOST_CLIPS);
            System.arraycopy(from.place, 0, place, 0, MOST_CLIPS);
            System.arraycopy(from.how, 0, how, 0, MOST_CLIPS);
            System.arraycopy(from.other, 0, other, 0, MOST_CLIPS);
            System.arraycopy(from.much, 0, much, 0, MOST_CLIPS);
            System.arraycopy(from.marks, 0, marks, 0, MOST_CLIPS * MARKS);
            presses = from.presses;
            System.arraycopy(from.pressKey, 0, pressKey, 0, MOST_PRESSES);
            System.arraycopy(from.pressTime, 0, pressTime, 0, MOST_PRESSES);
        }

        void empty() {
            clips = 0;
            presses = 0;
        }

        boolean has(int number) {
            return number >= 0 && number < clips;
        }

        int markOf(int number, int what) {
            return marks[number * MARKS + what];
        }

        void putMark(int number, int what, int value) {
            marks[number * MARKS + what] = value;
        }

        void putStart(int number, int newHow, int newOther, int newMuch) {
            how[number] = newHow;
            other[number] = newOther;
            much[number] = newMuch;
        }

        int howManyIn(int number) {
            int found = 0;
            for (int i = 0; i < clips; i++) {
                if (around[i] == number) {
                    found++;
                }
            }
            return found;
        }

        int childAt(int number, int wantedPlace) {
            for (int i = 0; i < clips; i++) {
                if (around[i] == number && place[i] == wantedPlace) {
                    return i;
                }
            }
            return NONE;
        }

        /** How many CLIPS would be around a new one right within this one. */
        int howManyAroundNew(int number) {
            int found = 0;
            for (int outer = number; outer != NONE && found < MOST_CLIPS; outer = around[outer]) {
                found++;
            }
            return found;
        }

        boolean isInPar(int number) {
            return around[number] != NONE && kind[around[number]] == PAR;
        }

        boolean startsByAnother(int number) {
            return how[number] == WITH || how[number] == BEHIND;
        }

        boolean startsAnother(int number) {
            for (int i = 0; i < clips; i++) {
                if (startsByAnother(i) && other[i] == number) {
                    return true;
                }
            }
            return false;
        }

        /** Whether a CLIP is this one, or starts by it, however many lie between. */
        boolean startLeadsTo(int from, int number) {
            int at = from;
            for (int hop = 0; hop < MOST_CLIPS; hop++) {
                if (at == number) {
                    return true;
                }
                if (!startsByAnother(at)) {
                    return false;
                }
                at = other[at];
            }
            return false;
        }

        int leaves() {
            return Integer.bitCount(bitsOfLeaves());
        }

        int bitsOfLeaves() {
            int bits = 0;
            for (int i = 0; i < clips; i++) {
                if (kind[i] == LEAF) {
                    bits |= 1 << i;
                }
            }
            return bits;
        }

        int append(int newKind, int newAround) {
            int number = clips;
            int newPlace = newAround == NONE ? 0 : howManyIn(newAround);
            clips++;
            kind[number] = newKind;
            around[number] = newAround;
            place[number] = newPlace;
            putStart(number, AT, NONE, 0);
            for (int what = 0; what < MARKS; what++) {
                putMark(number, what, MARK_LEAST[what]);
            }
            return number;
        }

        void shift(int number, int newPlace) {
            int oldPlace = place[number];
            for (int i = 0; i < clips; i++) {
                if (around[i] == around[number] && i != number) {
                    if (place[i] > oldPlace) {
                        place[i]--;
                    }
                    if (place[i] >= newPlace) {
                        place[i]++;
                    }
                }
            }
            place[number] = newPlace;
        }

        /** Takes out a CLIP and all within it; those that stay close up. */
        void drop(int number) {
            int gone = bitsWithin(number);
            for (int i = 0; i < clips; i++) {
                if (around[i] == around[number] && place[i] > place[number]) {
                    place[i]--;
                }
            }
            int left = 0;
            for (int i = 0; i < clips; i++) {
                if ((gone >> i & 1) == 0) {
                    copyClip(i, left, gone);
                    left++;
                }
            }
            clips = left;
        }

        /** A CLIP's bit and those of all that are within it, however deep. */
        private int bitsWithin(int number) {
            int bits = 1 << number;
            for (int i = number + 1; i < clips; i++) {
                if (around[i] != NONE && (bits >> around[i] & 1) == 1) {
                    bits |= 1 << i;
                }
            }
            return bits;
        }

        private void copyClip(int from, int to, int gone) {
            kind[to] = kind[from];
            around[to] = renumbered(around[from], gone);
            place[to] = place[from];
            putStart(to, how[from], renumbered(other[from], gone), much[from]);
            System.arraycopy(marks, from * MARKS, marks, to * MARKS, MARKS);
        }

        private static int renumbered(int number, int gone) {
            return number == NONE ? NONE : number - Integer.bitCount(gone & (1 << number) - 1);
        }

        boolean hasPress(int key, int time) {
            for (int i = 0; i < presses; i++) {
                if (pressKey[i] == key && pressTime[i] == time) {
                    return true;
                }
            }
            return false;
        }

        void appendPress(int key, int time) {
            pressKey[presses] = key;
            pressTime[presses] = time;
            presses++;
        }

        void dropPress(int number) {
            presses--;
            for (int i = number; i < presses; i++) {
                pressKey[i] = pressKey[i + 1];
                pressTime[i] = pressTime[i + 1];
            }
        }
    }

    /** How long the CLIPS of a SHOW are, and where they begin, as far as no PRESS is needed to know it. */
    private static final class Layout {
        final int[] simple = new int[MOST_CLIPS];
        final int[] active = new int[MOST_CLIPS];
        /** Of an OPEN CLIP: how far behind BEGIN of its base it begins. */
        final int[] begin = new int[MOST_CLIPS];
        /** The CLIP that starts AT or by PRESS, to which WITH and BEHIND lead at last. */
        final int[] base = new int[MOST_CLIPS];
        final boolean[] open = new boolean[MOST_CLIPS];
        int lasts;

        void measure(Show show) {
            lasts = 0;
            // What is within a CLIP has greater numbers, so it is measured by then.
            for (int clip = show.clips - 1; clip >= 0; clip--) {
                int inside = show.kind[clip] == SEQ ? layOneBehindTheOther(show, clip) : layAtOnce(show, clip);
                int told = show.markOf(clip, DUR);
                simple[clip] = told > 0 ? told : show.kind[clip] == LEAF ? LEAF_LENGTH : inside;
                active[clip] = activeOf(show, clip);
            }
            if (show.clips > 0) {
                base[0] = 0;
                open[0] = false;
                begin[0] = show.much[0];
                lasts = begin[0] + active[0];
            }
        }

        int howManyOpen(int clips) {
            int found = 0;
            for (int clip = 0; clip < clips; clip++) {
                if (open[clip]) {
                    found++;
                }
            }
            return found;
        }

        private int activeOf(Show show, int clip) {
            int rate = show.markOf(clip, RATE);
            int cut = show.markOf(clip, CUT);
            int whole = (simple[clip] * show.markOf(clip, TIMES) + rate - 1) / rate;
            return cut > 0 && cut < whole ? cut : whole;
        }

        /** Lays what is right within a SEQ: the END of the last one. */
        private int layOneBehindTheOther(Show show, int seq) {
            int end = 0;
            int inner = show.childAt(seq, 0);
            for (int next = 1; next <= MOST_CLIPS && inner != NONE; next++) {
                base[inner] = inner;
                open[inner] = false;
                begin[inner] = end + show.much[inner];
                end = begin[inner] + active[inner];
                inner = show.childAt(seq, next);
            }
            return end;
        }

        /** Lays what is right within a PAR: the greatest END of what is not OPEN. */
        private int layAtOnce(Show show, int par) {
            int greatest = 0;
            for (int inner = par + 1; inner < show.clips; inner++) {
                if (show.around[inner] == par) {
                    layInPar(show, inner);
                    if (!open[inner]) {
                        greatest = Math.max(greatest, begin[inner] + active[inner]);
                    }
                }
            }
            return greatest;
        }

        private void layInPar(Show show, int clip) {
            int at = clip;
            int behind = 0;
            // There is no RING, so the chain ends before it has passed all CLIPS.
            for (int hop = 0; hop < MOST_CLIPS && show.startsByAnother(at); hop++) {
                int other = show.other[at];
                behind += show.much[at] + (show.how[at] == BEHIND ? active[other] : 0);
                at = other;
            }
            base[clip] = at;
            open[clip] = show.how[at] == PRESS;
            begin[clip] = open[clip] ? behind : behind + show.much[at];
        }
    }

    /** What holds of the CLIPS at one TIME. */
    private static final class Moment {
        int time = NONE;
        int dark = WHOLE;
        final int[] state = new int[MOST_CLIPS];
        final int[] local = new int[MOST_CLIPS];
        final int[] pass = new int[MOST_CLIPS];
        final int[] begin = new int[MOST_CLIPS];
        final int[] sinceBegin = new int[MOST_CLIPS];
        final int[] strength = new int[MOST_CLIPS];
        final int[] share = new int[MOST_CLIPS];

        void clear(int clip) {
            state[clip] = AWAY;
            local[clip] = NONE;
            pass[clip] = NONE;
            begin[clip] = NONE;
            sinceBegin[clip] = 0;
            share[clip] = 0;
        }

        boolean runs(int clip) {
            return state[clip] == PLAYS || state[clip] == FROZEN;
        }

        int playedLocal(int clip) {
            return state[clip] == PLAYS ? local[clip] : NONE;
        }

        int bitsOf(int wanted, int clips) {
            int bits = 0;
            for (int clip = 0; clip < clips; clip++) {
                if (state[clip] == wanted) {
                    bits |= 1 << clip;
                }
            }
            return bits;
        }

        int bitsOfSeen(int clips) {
            int bits = 0;
            for (int clip = 0; clip < clips; clip++) {
                if (share[clip] > 0) {
                    bits |= 1 << clip;
                }
            }
            return bits;
        }

        /** All STATES in one number, so that two TIMES are compared at once. */
        long allStates(int clips) {
            long all = 0;
            for (int clip = 0; clip < clips; clip++) {
                all = all * 8 + state[clip];
            }
            return all;
        }
    }

    /** Looks at any TIME of the SHOW. */
    private static final class Stage {
        private final Show show;
        private final Layout layout;
        private final Moment now = new Moment();
        /** What holds at the TIME of each PRESS, by which OPEN CLIPS begin. */
        private final Moment[] atPress = new Moment[MOST_PRESSES];
        /** The PRESSES by their TIMES. */
        private final int[] inTime = new int[MOST_PRESSES];
        /** The LEAVES as they stand. */
        private final int[] stand = new int[MOST_CLIPS];
        private int standing;
        /** From this TIME on nothing changes any more. */
        private int settled;

        Stage(Show show, Layout layout) {
            this.show = show;
            this.layout = layout;
            for (int i = 0; i < MOST_PRESSES; i++) {
                atPress[i] = new Moment();
            }
        }

        /** To be called whenever the SHOW has changed. */
        void prepare() {
            layout.measure(show);
            now.time = NONE;
            standLeaves();
            sortPresses();
            settled = layout.lasts;
            for (int i = 0; i < show.presses; i++) {
                int press = inTime[i];
                fill(atPress[press], show.pressTime[press]);
                settled = Math.max(settled, show.pressTime[press]);
            }
        }

        /** The moment is filled anew by the next call. */
        Moment at(int time) {
            int looked = Math.min(time, settled);
            if (now.time != looked) {
                fill(now, looked);
            }
            return now;
        }

        int clips() {
            return show.clips;
        }

        int topAt(int time) {
            Moment moment = at(time);
            int greatest = 0;
            int found = NONE;
            for (int i = 0; i < standing; i++) {
                if (moment.share[stand[i]] > greatest) {
                    greatest = moment.share[stand[i]];
                    found = stand[i];
                }
            }
            return found;
        }

        private void standLeaves() {
            standing = 0;
            for (int layer = MARK_MOST[LAYER]; layer >= 0; layer--) {
                for (int clip = show.clips - 1; clip >= 0; clip--) {
                    if (show.kind[clip] == LEAF && show.markOf(clip, LAYER) == layer) {
                        stand[standing] = clip;
                        standing++;
                    }
                }
            }
        }

        private void sortPresses() {
            for (int i = 0; i < show.presses; i++) {
                int to = i;
                while (to > 0 && show.pressTime[inTime[to - 1]] > show.pressTime[i]) {
                    inTime[to] = inTime[to - 1];
                    to--;
                }
                inTime[to] = i;
            }
        }

        private void fill(Moment moment, int time) {
            moment.time = time;
            for (int clip = 0; clip < show.clips; clip++) {
                moment.clear(clip);
                fillClip(moment, clip);
                moment.strength[clip] = moment.runs(clip) ? strengthOf(moment, clip) : 0;
            }
            shareLight(moment);
        }

        private void fillClip(Moment moment, int clip) {
            int around = show.around[clip];
            if (around != NONE && !moment.runs(around)) {
                return;
            }
            int timeAround = around == NONE ? moment.time : moment.local[around];
            int begin = layout.open[clip] ? begunByPress(moment, clip) : layout.begin[clip];
            moment.begin[clip] = begin;
            if (begin == NONE || begin > timeAround) {
                moment.state[clip] = WAITS;
            } else if (timeAround - begin < layout.active[clip]) {
                moment.state[clip] = PLAYS;
                fillRunning(moment, clip, timeAround - begin);
            } else if (show.markOf(clip, HOLD) == 1 && layout.active[clip] > 0) {
                moment.state[clip] = FROZEN;
                fillRunning(moment, clip, layout.active[clip] - 1);
            } else {
                moment.state[clip] = OVER;
            }
        }

        private void fillRunning(Moment moment, int clip, int sinceBegin) {
            int simple = layout.simple[clip];
            if (simple <= 0) {
                return;
            }
            long gone = (long) sinceBegin * show.markOf(clip, RATE);
            int left = (int) (gone % simple);
            moment.pass[clip] = (int) (gone / simple);
            moment.local[clip] = show.markOf(clip, BACK) == 1 ? simple - 1 - left : left;
            moment.sinceBegin[clip] = sinceBegin;
        }

        private int strengthOf(Moment moment, int clip) {
            int around = show.around[clip];
            int sinceBegin = moment.sinceBegin[clip];
            long in = (sinceBegin + 1L) * WHOLE / (show.markOf(clip, IN) + 1);
            long out = ((long) layout.active[clip] - sinceBegin) * WHOLE / (show.markOf(clip, OUT) + 1);
            int own = (int) Math.min(WHOLE, Math.min(in, out));
            return own * (around == NONE ? WHOLE : moment.strength[around]) / WHOLE;
        }

        private void shareLight(Moment moment) {
            int light = WHOLE;
            for (int i = 0; i < standing; i++) {
                int share = light * moment.strength[stand[i]] / WHOLE;
                moment.share[stand[i]] = share;
                light -= share;
            }
            moment.dark = light;
        }

        private int begunByPress(Moment moment, int clip) {
            int around = show.around[clip];
            int key = show.much[layout.base[clip]];
            for (int i = 0; i < show.presses; i++) {
                int press = inTime[i];
                int time = show.pressTime[press];
                if (show.pressKey[press] == key && time <= moment.time) {
                    // At the TIME of the PRESS itself its own moment may not be filled yet.
                    Moment then = time == moment.time ? moment : atPress[press];
                    if (then.state[around] == PLAYS && samePasses(moment, then, around)) {
                        return then.local[around] + layout.begin[clip];
                    }
                }
            }
            return NONE;
        }

        private boolean samePasses(Moment moment, Moment then, int clip) {
            int outer = clip;
            for (int hop = 0; hop < MOST_CLIPS && outer != NONE; hop++) {
                if (moment.pass[outer] != then.pass[outer]) {
                    return false;
                }
                outer = show.around[outer];
            }
            return true;
        }
    }

    /** A PIECE or a SPAN of a CLIP, found on the way along all TIMES. */
    private static final class Stretch {
        private static final int[] SORT_STEPS = {1093, 364, 121, 40, 13, 4, 1};

        private final Stage stage;
        private final int[] row = new int[LAST_TIME + 1];
        int first;
        int last;
        int step;
        int local;

        Stretch(Stage stage) {
            this.stage = stage;
        }

        int countPieces(int clip) {
            return walk(clip, LAST_TIME + 1, true);
        }

        int countSpans(int clip) {
            return walk(clip, LAST_TIME + 1, false);
        }

        boolean findPiece(int clip, int wanted) {
            return walk(clip, wanted, true) > wanted;
        }

        boolean findSpan(int clip, int wanted) {
            return walk(clip, wanted, false) > wanted;
        }

        /** The first TIME in the PIECE found last at which LOCAL has come to this one. */
        int firstTimeAt(int clip, int wanted) {
            for (int time = first; time <= last; time++) {
                int reached = stage.at(time).local[clip];
                if (reached == wanted || step > 0 && reached > wanted || step < 0 && reached < wanted) {
                    return time;
                }
            }
            return NONE;
        }

        int unlikeLocals(int clip, int from, int to) {
            int length = 0;
            for (int time = from; time <= to && length < row.length; time++) {
                int played = stage.at(time).playedLocal(clip);
                if (played != NONE) {
                    row[length] = played;
                    length++;
                }
            }
            sortRow(length);
            int unlike = 0;
            for (int i = 0; i < length; i++) {
                if (i == 0 || row[i] != row[i - 1]) {
                    unlike++;
                }
            }
            return unlike;
        }

        /** How many there are, up to the wanted one, at which it stops. */
        private int walk(int clip, int wanted, boolean even) {
            int found = 0;
            int ahead = NONE;
            for (int time = 0; time <= LAST_TIME; time++) {
                int played = stage.at(time).playedLocal(clip);
                boolean goesOn = played != NONE && ahead != NONE && (!even || keepsStep(played - ahead));
                if (goesOn) {
                    last = time;
                } else if (found > wanted) {
                    return found;
                } else if (played != NONE) {
                    found++;
                    first = time;
                    last = time;
                    step = 0;
                    local = played;
                }
                ahead = played;
            }
            return found;
        }

        private boolean keepsStep(int change) {
            if (first == last) {
                step = change;
            }
            return step == change;
        }

        private void sortRow(int length) {
            for (int gap : SORT_STEPS) {
                for (int i = gap; i < length; i++) {
                    int value = row[i];
                    int to = i;
                    while (to >= gap && row[to - gap] > value) {
                        row[to] = row[to - gap];
                        to -= gap;
                    }
                    row[to] = value;
                }
            }
        }
    }

    /** The SHOWS ahead of the latest ACTS, each in its turn written over by a newer one. */
    private static final class Past {
        private final Show[] kept = new Show[MOST_UNDONE];
        private int next;
        int many;

        Past() {
            for (int i = 0; i < MOST_UNDONE; i++) {
                kept[i] = new Show();
            }
        }

        void keep(Show show) {
            kept[next].copyFrom(show);
            next = (next + 1) % MOST_UNDONE;
            many = Math.min(many + 1, MOST_UNDONE);
        }

        void bringBack(Show show) {
            next = (next + MOST_UNDONE - 1) % MOST_UNDONE;
            show.copyFrom(kept[next]);
            many--;
        }
    }

    /** The HEAD, and the EVENTS of the latest PLAY. */
    private static final class Reel {
        int time;
        int events;
        final int[] kind = new int[MOST_EVENTS];
        final int[] when = new int[MOST_EVENTS];
        final int[] clip = new int[MOST_EVENTS];
        final int[] local = new int[MOST_EVENTS];
        private final boolean[] playedAhead = new boolean[MOST_CLIPS];
        private final int[] passAhead = new int[MOST_CLIPS];

        void rewind() {
            time = 0;
            events = 0;
        }

        void goOn(Stage stage, int n) {
            events = 0;
            remember(stage.at(time), stage.clips());
            for (int i = 0; i < n; i++) {
                time++;
                Moment moment = stage.at(time);
                for (int number = 0; number < stage.clips(); number++) {
                    noteEvent(moment, number);
                }
                remember(moment, stage.clips());
            }
        }

        private void remember(Moment moment, int clips) {
            for (int number = 0; number < clips; number++) {
                playedAhead[number] = moment.state[number] == PLAYS;
                passAhead[number] = moment.pass[number];
            }
        }

        private void noteEvent(Moment moment, int number) {
            boolean plays = moment.state[number] == PLAYS;
            if (plays && !playedAhead[number]) {
                keepEvent(0, number, moment.local[number]);
            } else if (!plays && playedAhead[number]) {
                keepEvent(1, number, NONE);
            } else if (plays && moment.pass[number] != passAhead[number]) {
                keepEvent(2, number, moment.local[number]);
            }
        }

        private void keepEvent(int newKind, int number, int newLocal) {
            if (events < MOST_EVENTS) {
                kind[events] = newKind;
                when[events] = time;
                clip[events] = number;
                local[events] = newLocal;
            }
            events++;
        }
    }

    /** The bytes that were fed, 0 to 255 each. */
    private static final class Tape {
        final int[] bytes = new int[MOST_BYTES];
        int length;

        /** The caller looks for room. */
        void putInt(int four) {
            for (int shift = 24; shift >= 0; shift -= 8) {
                bytes[length] = four >> shift & 255;
                length++;
            }
        }
    }

    /** Reads a SHOW from the tape into a draft, up to the first FAULT. */
    private static final class Reader {
        /** KINDS, MARKS and ways to start, each group in the order of its numbers. */
        private static final String WORDS =
                "leaf par seq dur rate times cut back hold layer in out at with behind press ";
        private static final int FIRST_MARK = 3;
        private static final int FIRST_START = FIRST_MARK + MARKS;
        private static final int LONGEST_NAME = 8;
        private static final int LONGEST_NUMBER = 4;

        private static final int END = 0;
        private static final int BAD = 1;
        private static final int WORD = 2;
        private static final int NUMBER = 3;
        private static final int SIGN = 4;

        private final Tape tape;
        private final Show draft;
        private final Layout layout;
        private int length;
        /** The TOKEN that is looked at: its type, its first byte, the one behind it, what it says. */
        private int type;
        private int from;
        private int behind;
        private long said;
        /** NAMES as numbers; a NAME has one letter at least, so 0 is none. */
        private final long[] names = new long[MOST_CLIPS];
        private final long[] startNames = new long[MOST_CLIPS];
        /** The CLIP right within which the next one would be. */
        private int open;
        /** The CLIP whose MARKS are read, up to the sign behind them. */
        private int marked;
        /** The MARKS that it has, as bits; all ways to start are one. */
        private int told;
        int fault;
        int place;

        Reader(Tape tape, Show draft, Layout layout) {
            this.tape = tape;
            this.draft = draft;
            this.layout = layout;
        }

        void read(int n) {
            length = n;
            behind = 0;
            open = NONE;
            marked = NONE;
            fault = 0;
            place = NONE;
            draft.empty();
            takeToken();
            boolean going = readClip();
            // Each round takes a TOKEN at least, and none is shorter than a byte.
            for (int round = 0; round <= n && going && (marked != NONE || open != NONE); round++) {
                if (marked != NONE) {
                    going = type == WORD ? readMark(marked) : readSign(marked);
                } else {
                    going = isSign(')') ? closeClip() : readClip();
                }
            }
            if (going) {
                readEnd();
            }
        }

        private void readEnd() {
            if (type != END) {
                cannotStand();
                return;
            }
            layout.measure(draft);
            if (layout.lasts > LAST_TIME) {
                failWith(8);
            }
        }

        private boolean readClip() {
            int kind = wordNumber();
            if (kind < LEAF || kind > SEQ) {
                return cannotStand();
            }
            if (draft.clips >= MOST_CLIPS || draft.howManyAroundNew(open) > MOST_AROUND) {
                return failWith(6);
            }
            int clip = draft.append(kind, open);
            takeToken();
            return readName(clip);
        }

        private boolean readName(int clip) {
            if (!isName()) {
                return cannotStand();
            }
            for (int i = 0; i < clip; i++) {
                if (names[i] == said) {
                    return failWith(3);
                }
            }
            names[clip] = said;
            startNames[clip] = 0;
            marked = clip;
            told = 0;
            takeToken();
            return true;
        }

        private boolean readSign(int clip) {
            boolean isLeaf = draft.kind[clip] == LEAF;
            if (!isSign(isLeaf ? ';' : '(')) {
                return cannotStand();
            }
            if (!isLeaf) {
                open = clip;
            }
            marked = NONE;
            takeToken();
            return true;
        }

        private boolean readMark(int clip) {
            int word = wordNumber();
            if (word < FIRST_MARK) {
                return cannotStand();
            }
            int bit = 1 << Math.min(word, FIRST_START);
            if ((told & bit) != 0) {
                return failWith(5);
            }
            told |= bit;
            return word < FIRST_START
                    ? readMarkNumber(clip, word - FIRST_MARK)
                    : readStart(clip, word - FIRST_START);
        }

        private boolean readMarkNumber(int clip, int what) {
            takeToken();
            if (what == BACK || what == HOLD) {
                draft.putMark(clip, what, 1);
                return true;
            }
            if (!mayBeNumber(TOLD_LEAST[what], MARK_MOST[what])) {
                return false;
            }
            draft.putMark(clip, what, (int) said);
            takeToken();
            return true;
        }

        private boolean readStart(int clip, int how) {
            if (how != AT && !draft.isInPar(clip)) {
                return failWith(5);
            }
            takeToken();
            if (how == WITH || how == BEHIND) {
                if (!isName()) {
                    return cannotStand();
                }
                startNames[clip] = said;
                takeToken();
            }
            if (!mayBeNumber(0, how == PRESS ? LAST_KEY : MOST_TOLD)) {
                return false;
            }
            draft.putStart(clip, how, NONE, (int) said);
            takeToken();
            return true;
        }

        private boolean mayBeNumber(int least, int most) {
            if (type != NUMBER) {
                return cannotStand();
            }
            return said >= least && said <= most || failWith(4);
        }

        private boolean closeClip() {
            if (draft.kind[open] == PAR) {
                if (!findOthers()) {
                    return failWith(3);
                }
                if (hasRing()) {
                    return failWith(7);
                }
            }
            open = draft.around[open];
            takeToken();
            return true;
        }

        private boolean findOthers() {
            for (int clip = open + 1; clip < draft.clips; clip++) {
                if (draft.around[clip] == open && draft.startsByAnother(clip)) {
                    int other = namedInOpen(startNames[clip]);
                    if (other == NONE || other == clip) {
                        return false;
                    }
                    draft.other[clip] = other;
                }
            }
            return true;
        }

        private int namedInOpen(long name) {
            for (int clip = open + 1; clip < draft.clips; clip++) {
                if (draft.around[clip] == open && names[clip] == name) {
                    return clip;
                }
            }
            return NONE;
        }

        private boolean hasRing() {
            for (int clip = open + 1; clip < draft.clips; clip++) {
                if (draft.around[clip] == open && draft.startsByAnother(clip)
                        && draft.startLeadsTo(draft.other[clip], clip)) {
                    return true;
                }
            }
            return false;
        }

        private boolean failWith(int kind) {
            fault = kind;
            place = from;
            return false;
        }

        /** What is no TOKEN stands nowhere, so each FAULT 1 comes to light here. */
        private boolean cannotStand() {
            return failWith(type == BAD ? 1 : 2);
        }

        private boolean isSign(char sign) {
            return type == SIGN && said == sign;
        }

        private boolean isName() {
            return type == WORD && behind - from <= LONGEST_NAME && wordNumber() == NONE;
        }

        /** Which of the WORDS the TOKEN is. */
        private int wordNumber() {
            if (type != WORD || behind - from > LONGEST_NAME) {
                return NONE;
            }
            int number = 0;
            long spelt = 0;
            for (int i = 0; i < WORDS.length(); i++) {
                char letter = WORDS.charAt(i);
                if (letter != ' ') {
                    spelt = withLetter(spelt, letter);
                } else if (spelt == said) {
                    return number;
                } else {
                    number++;
                    spelt = 0;
                }
            }
            return NONE;
        }

        private static long withLetter(long spelt, int letter) {
            return spelt * 32 + (letter - 'a' + 1);
        }

        private void takeToken() {
            from = behind;
            while (from < length && (tape.bytes[from] == 10 || tape.bytes[from] == 32)) {
                from++;
            }
            behind = from;
            said = 0;
            if (from >= length) {
                type = END;
            } else if (isLetter(from)) {
                takeWord();
            } else if (isDigit(from)) {
                takeNumber();
            } else {
                takeSign();
            }
        }

        private void takeWord() {
            type = WORD;
            for (; behind < length && isLetter(behind); behind++) {
                said = withLetter(said, tape.bytes[behind]);
            }
        }

        private void takeNumber() {
            for (; behind < length && isDigit(behind); behind++) {
                said = said * 10 + tape.bytes[behind] - '0';
            }
            type = behind - from > LONGEST_NUMBER ? BAD : NUMBER;
        }

        private void takeSign() {
            int sign = tape.bytes[from];
            type = sign == '(' || sign == ')' || sign == ';' ? SIGN : BAD;
            said = sign;
            behind = from + 1;
        }

        private boolean isLetter(int at) {
            return tape.bytes[at] >= 'a' && tape.bytes[at] <= 'z';
        }

        private boolean isDigit(int at) {
            return tape.bytes[at] >= '0' && tape.bytes[at] <= '9';
        }
    }
}
