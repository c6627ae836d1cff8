import java.util.NoSuchElementException;

/** The document's "Promise 1" to "Promise 21": each sentence that names an edge, in its order. */
public final class EdgesOfCallsTest {
    private static final int LOW = Integer.MIN_VALUE;
    private static final int HIGH = Integer.MAX_VALUE;
    private static final int LAST_TICK = 1000000000;
    private static final int[] OFF_CHANNELS = {-1, 64, LOW, HIGH};
    private static final int[] OFF_LEVELS = {-1, 256, LOW, HIGH};
    private static final int[] OFF_PALETTES = {-1, 16, LOW, HIGH};
    private static final int[] OFF_LISTS = {-1, 4, LOW, HIGH};
    private static final int[] OFF_PLAYBACKS = {-1, 6, LOW, HIGH};
    private static final int[] OFF_TIMES = {-1, 10001, LOW, HIGH};

    // Beside each cue of Desks.busy(), out of the numbers, and in a list that has none such.
    private static final int[][] NO_CUES = {
        {0, 9}, {0, 11}, {0, 19}, {0, 21}, {0, 0}, {0, -1}, {0, 9999}, {0, 10000}, {0, LOW}, {0, HIGH},
        {1, 9}, {1, 11}, {1, 20}, {2, 10}, {3, 10}, {-1, 10}, {4, 10}, {-1, -1}, {LOW, 10}, {HIGH, 10}
    };

    public static void main(String[] args) {
        newObject();
        kind();
        set();
        use();
        release();
        releaseOfAll();
        palette();
        paletteOfNone();
        recordOfNoList();
        recordOfNoNumber();
        updateToTheSameValue();
        noSuchCue();
        deleteOfTheDeleted();
        times();
        timesOfNoCue();
        delays();
        delaysOfNoCue();
        lookAndSourceOfNoChannel();
        cueInItsPlace();
        cueOfWhat();
        cueCounts();
        assign();
        assignAfterAStart();
        goOfNoPlayback();
        goAtAnEarlierTick();
        goAtTheLastTick();
        goWithoutAList();
        goWithoutACue();
        master();
        outOfNoChannel();
        outAtAnEarlierTick();
        outAtTheLastTick();
        playbackOfNoNumber();
        playbackOfWhat();
        playbackWithoutAStart();
        count();
        Check.end();
    }

    private static void newObject() {
        Check.says("No cues, palettes, values; tick 0.");
        LightingDesk d = new LightingDesk();
        for (int what = 0; what <= 4; what++) {
            int w = what;
            Check.is(0, () -> d.count(w));
        }
        for (int list = 0; list <= 3; list++) {
            int l = list;
            Check.is(0, () -> d.cue(l, -1, 0));
        }
        for (int palette = 0; palette <= 15; palette++) {
            int number = palette + 1;
            d.use(0, palette);
            d.use(63, palette);
            d.record(0, number, false);
            Check.is(-1, () -> d.look(0, number, 0));
            Check.is(-1, () -> d.look(0, number, 63));
        }
        Check.fails(IllegalArgumentException.class, () -> d.out(0, -1));
        Check.is(0, () -> d.out(0, 0));
    }

    /** Two playbacks with channels 0 and 63 at 200, and later at 90. */
    private static LightingDesk deskToMerge() {
        LightingDesk d = new LightingDesk();
        d.set(0, 200);
        d.set(63, 200);
        d.record(0, 1, false);
        d.set(0, 90);
        d.set(63, 90);
        d.record(1, 1, false);
        d.release(-1);
        d.assign(0, 0);
        d.assign(1, 1);
        d.go(0, false, 1);
        d.go(1, false, 2);
        return d;
    }

    private static void kind() {
        Check.says("A channel is an attribute from now on, or an intensity: true; false if there is no such channel.");
        LightingDesk d = deskToMerge();
        for (int channel : new int[] {0, 63}) {
            Check.yes(() -> d.kind(channel, false));
            Check.is(200, () -> d.out(channel, 2));
            Check.yes(() -> d.kind(channel, true));
            Check.is(90, () -> d.out(channel, 2));
        }
        State.unchanged(d, () -> {
            for (int channel : OFF_CHANNELS) {
                Check.no(() -> d.kind(channel, true));
                Check.no(() -> d.kind(channel, false));
            }
        });
    }

    private static void set() {
        Check.says("The programmer has a level for a channel: true; false if there is no such channel or level.");
        LightingDesk d = Desks.busy();
        for (int channel : new int[] {0, 63}) {
            for (int level : new int[] {255, 0}) {
                Check.yes(() -> d.set(channel, level));
                Check.is(level, () -> d.out(channel, 120));
            }
        }
        Check.is(3, () -> d.count(2));
        State.unchanged(d, () -> {
            for (int channel : OFF_CHANNELS) {
                Check.no(() -> d.set(channel, 5));
            }
            for (int level : OFF_LEVELS) {
                Check.no(() -> d.set(2, level));
                Check.no(() -> d.set(5, level));
            }
            Check.no(() -> d.set(64, 256));
        });
    }

    private static void use() {
        Check.says("The programmer has a palette for a channel: true; false if there is no such channel or palette.");
        LightingDesk d = Desks.busy();
        for (int channel : new int[] {0, 63}) {
            for (int palette : new int[] {0, 15}) {
                d.palette(palette, channel, 100 + palette);
                Check.yes(() -> d.use(channel, palette));
                Check.is(100 + palette, () -> d.out(channel, 120));
            }
        }
        Check.is(3, () -> d.count(2));
        State.unchanged(d, () -> {
            for (int channel : OFF_CHANNELS) {
                Check.no(() -> d.use(channel, 1));
            }
            for (int palette : OFF_PALETTES) {
                Check.no(() -> d.use(2, palette));
                Check.no(() -> d.use(5, palette));
            }
            Check.no(() -> d.use(64, 16));
        });
    }

    private static void release() {
        Check.says("for how many it had something; 0 if there is no such channel.");
        LightingDesk d = Desks.busy();
        d.set(0, 0);
        d.use(63, 1);
        State.unchanged(d, () -> {
            for (int channel : new int[] {-2, 64, LOW, HIGH}) {
                Check.is(0, () -> d.release(channel));
            }
            Check.is(0, () -> d.release(1));
        });
        Check.is(3, () -> d.count(2));
        Check.is(1, () -> d.release(0));
        Check.is(2, () -> d.count(2));
        Check.is(1, () -> d.release(63));
        Check.is(1, () -> d.count(2));
        Check.is(0, () -> d.release(0));
        Check.is(0, () -> d.release(63));
        Check.is(1, () -> d.count(2));
        Check.is(50, () -> d.out(0, 120));
    }

    private static void releaseOfAll() {
        Check.says("or for all with NONE, any more");
        LightingDesk d = new LightingDesk();
        Check.is(0, () -> d.release(LightingDesk.NONE));
        for (int channel = 0; channel < 64; channel++) {
            d.set(channel, 0);
        }
        Check.is(64, () -> d.count(2));
        Check.is(64, () -> d.release(LightingDesk.NONE));
        Check.is(0, () -> d.count(2));
        Check.is(0, () -> d.release(LightingDesk.NONE));
        Check.is(0, () -> d.record(0, 1, false));
    }

    private static void palette() {
        Check.says("A palette has a level for a channel, or none any more with NONE: true; false if there is no such palette, channel or level.");
        LightingDesk d = Desks.busy();
        for (int palette : new int[] {0, 15}) {
            for (int channel : new int[] {0, 63}) {
                for (int level : new int[] {0, 255}) {
                    d.use(channel, palette);
                    Check.yes(() -> d.palette(palette, channel, level));
                    Check.is(level, () -> d.out(channel, 120));
                }
            }
        }
        State.unchanged(d, () -> {
            for (int palette : OFF_PALETTES) {
                Check.no(() -> d.palette(palette, 63, 5));
                Check.no(() -> d.palette(palette, 63, LightingDesk.NONE));
            }
            for (int channel : OFF_CHANNELS) {
                Check.no(() -> d.palette(1, channel, 5));
                Check.no(() -> d.palette(1, channel, LightingDesk.NONE));
            }
            for (int level : new int[] {-2, 256, LOW, HIGH}) {
                Check.no(() -> d.palette(1, 63, level));
            }
        });
    }

    private static void paletteOfNone() {
        Check.says("or none any more with NONE");
        LightingDesk d = Desks.busy();
        d.palette(1, 62, 42);
        d.palette(2, 63, 43);
        Check.is(41, () -> d.look(0, 10, 63));
        Check.yes(() -> d.palette(1, 63, LightingDesk.NONE));
        Check.is(-1, () -> d.look(0, 10, 63));
        Check.yes(() -> d.palette(1, 63, LightingDesk.NONE));
        // Neither another channel's level nor another palette's goes with it.
        d.use(62, 1);
        d.use(63, 2);
        Check.is(42, () -> d.out(62, 120));
        Check.is(43, () -> d.out(63, 120));
    }

    private static void recordOfNoList() {
        Check.says("IllegalArgumentException if there is no such list or number");
        LightingDesk d = Desks.busy();
        State.unchanged(d, () -> {
            for (int list : OFF_LISTS) {
                Check.fails(IllegalArgumentException.class, () -> d.record(list, 10, false));
                Check.fails(IllegalArgumentException.class, () -> d.record(list, 5, true));
            }
        });
        Check.is(1, () -> d.record(0, 1, false));
        Check.is(1, () -> d.record(3, 1, false));
    }

    private static void recordOfNoNumber() {
        Check.says("IllegalArgumentException if there is no such list or number");
        LightingDesk d = Desks.busy();
        State.unchanged(d, () -> {
            for (int number : new int[] {0, -1, 10000, LOW, HIGH}) {
                Check.fails(IllegalArgumentException.class, () -> d.record(0, number, true));
                Check.fails(IllegalArgumentException.class, () -> d.record(2, number, false));
            }
        });
        Check.is(1, () -> d.record(2, 1, false));
        Check.is(1, () -> d.record(2, 9999, false));
        Check.is(1, () -> d.cue(2, 0, 0));
        Check.is(9999, () -> d.cue(2, 1, 0));
    }

    private static void updateToTheSameValue() {
        Check.says("how many cues have moves changed or made by that (to the same value, too).");
        LightingDesk d = new LightingDesk();
        Desks.addCues(d, 0, 0, 10, 20);
        Check.is(0, () -> d.update(0, 2));
        d.set(0, 20);
        Check.is(1, () -> d.update(0, 2));
        d.set(1, 5);
        Check.is(1, () -> d.update(0, 2));
        Check.is(2, () -> d.cue(0, 1, 1));
        d.record(0, 3, false);
        // Of cue 3 all channels have their own moves: one cue, though three channels.
        d.set(2, 6);
        Check.is(1, () -> d.update(0, 3));
        // Of cue 4 channel 0 has its source at 3, channel 3 has none.
        d.release(-1);
        d.record(0, 4, false);
        d.set(0, 20);
        d.set(3, 7);
        Check.is(2, () -> d.update(0, 4));
    }

    private static void noSuchCue() {
        Check.says("NoSuchElementException if there is no such cue");
        LightingDesk d = Desks.busy();
        State.unchanged(d, () -> {
            for (int[] no : NO_CUES) {
                Check.fails(NoSuchElementException.class, () -> d.update(no[0], no[1]));
                Check.fails(NoSuchElementException.class, () -> d.delete(no[0], no[1], true));
                Check.fails(NoSuchElementException.class, () -> d.block(no[0], no[1], true));
                Check.fails(NoSuchElementException.class, () -> d.block(no[0], no[1], false));
                Check.fails(NoSuchElementException.class, () -> d.look(no[0], no[1], 0));
                Check.fails(NoSuchElementException.class, () -> d.source(no[0], no[1], 0));
            }
        });
        for (int number : new int[] {10, 20}) {
            Check.is(1, () -> d.update(0, number));
            Check.is(number == 10 ? 200 : 100, () -> d.look(0, number, 0));
            Check.is(number, () -> d.source(0, number, 0));
            Check.is(3, () -> d.block(0, number, true));
            Check.is(3, () -> d.delete(0, number, false));
        }
    }

    private static void deleteOfTheDeleted() {
        Check.says("how many moves it had. NoSuchElementException if there is no such cue");
        LightingDesk d = Desks.busy();
        Check.is(2, () -> d.delete(0, 10, false));
        Check.fails(NoSuchElementException.class, () -> d.delete(0, 10, false));
        Check.is(2, () -> d.delete(0, 20, true));
        Check.fails(NoSuchElementException.class, () -> d.delete(0, 20, true));
        // A list that has become empty, and one that never had a cue.
        Check.fails(NoSuchElementException.class, () -> d.update(0, 10));
        Check.fails(NoSuchElementException.class, () -> d.block(0, 20, false));
        Check.fails(NoSuchElementException.class, () -> d.look(0, 20, 0));
        Check.fails(NoSuchElementException.class, () -> d.source(0, 20, 0));
        Check.no(() -> d.times(0, 20, 1, 1));
        Check.no(() -> d.delays(0, 20, 1, 1));
        Check.fails(NoSuchElementException.class, () -> d.delete(2, 10, true));
        d.release(-1);
        Check.is(0, () -> d.record(0, 10, false));
        Check.is(0, () -> d.delete(0, 10, true));
    }

    private static void times() {
        Check.says("UP and DOWN of a cue: true; false if there is no such cue, or one is not 0 .. 10000.");
        LightingDesk d = Desks.busy();
        Check.yes(() -> d.times(0, 10, 0, 10000));
        Check.is(0, () -> d.cue(0, 0, 2));
        Check.is(10000, () -> d.cue(0, 0, 3));
        Check.yes(() -> d.times(0, 10, 10000, 0));
        Check.is(10000, () -> d.cue(0, 0, 2));
        Check.is(0, () -> d.cue(0, 0, 3));
        State.unchanged(d, () -> {
            for (int time : OFF_TIMES) {
                Check.no(() -> d.times(0, 10, time, 7));
                Check.no(() -> d.times(0, 10, 7, time));
                Check.no(() -> d.times(0, 10, time, time));
            }
        });
    }

    private static void timesOfNoCue() {
        Check.says("UP and DOWN of a cue: true; false if there is no such cue");
        LightingDesk d = Desks.busy();
        State.unchanged(d, () -> {
            for (int[] no : NO_CUES) {
                Check.no(() -> d.times(no[0], no[1], 3, 4));
            }
        });
        Check.yes(() -> d.times(0, 20, 3, 4));
        Check.is(3, () -> d.cue(0, 1, 2));
        Check.is(4, () -> d.cue(0, 1, 3));
        Check.is(100, () -> d.cue(0, 0, 2));
        Check.is(0, () -> d.cue(1, 0, 2));
    }

    private static void delays() {
        Check.says("DELAY and FOLLOW of a cue: true; false if there is no such cue, delay is not 0 .. 10000, or follow not that or NONE.");
        LightingDesk d = Desks.busy();
        Check.yes(() -> d.delays(0, 10, 0, 10000));
        Check.is(0, () -> d.cue(0, 0, 4));
        Check.is(10000, () -> d.cue(0, 0, 5));
        Check.yes(() -> d.delays(0, 10, 10000, 0));
        Check.is(10000, () -> d.cue(0, 0, 4));
        Check.is(0, () -> d.cue(0, 0, 5));
        Check.yes(() -> d.delays(0, 10, 9, LightingDesk.NONE));
        Check.is(9, () -> d.cue(0, 0, 4));
        Check.is(-1, () -> d.cue(0, 0, 5));
        Check.yes(() -> d.delays(0, 10, 5, 50));
        State.unchanged(d, () -> {
            for (int time : OFF_TIMES) {
                Check.no(() -> d.delays(0, 10, time, 7));
                Check.no(() -> d.delays(0, 10, time, LightingDesk.NONE));
            }
            for (int time : new int[] {-2, 10001, LOW, HIGH}) {
                Check.no(() -> d.delays(0, 10, 7, time));
            }
        });
    }

    private static void delaysOfNoCue() {
        Check.says("DELAY and FOLLOW of a cue: true; false if there is no such cue");
        LightingDesk d = Desks.busy();
        State.unchanged(d, () -> {
            for (int[] no : NO_CUES) {
                Check.no(() -> d.delays(no[0], no[1], 3, 4));
            }
        });
        Check.yes(() -> d.delays(0, 20, 3, 4));
        Check.is(3, () -> d.cue(0, 1, 4));
        Check.is(4, () -> d.cue(0, 1, 5));
        Check.is(50, () -> d.cue(0, 0, 5));
        Check.is(-1, () -> d.cue(1, 0, 5));
    }

    private static void lookAndSourceOfNoChannel() {
        Check.says("IndexOutOfBoundsException if there is no such channel.");
        LightingDesk d = Desks.busy();
        State.unchanged(d, () -> {
            for (int channel : OFF_CHANNELS) {
                Check.fails(IndexOutOfBoundsException.class, () -> d.look(0, 20, channel));
                Check.fails(IndexOutOfBoundsException.class, () -> d.source(0, 20, channel));
            }
        });
        Check.is(100, () -> d.look(0, 20, 0));
        Check.is(41, () -> d.look(0, 20, 63));
        Check.is(20, () -> d.source(0, 20, 0));
        Check.is(10, () -> d.source(0, 20, 63));
    }

    private static void cueInItsPlace() {
        Check.says("Of the i-th cue of a list (from 0 on)");
        LightingDesk d = Desks.busy();
        Check.is(10, () -> d.cue(0, 0, 0));
        Check.is(20, () -> d.cue(0, 1, 0));
        Check.is(10, () -> d.cue(1, 0, 0));
        State.unchanged(d, () -> {
            for (int i : new int[] {-2, 2, 3, 39, 40, LOW, HIGH}) {
                Check.fails(IndexOutOfBoundsException.class, () -> d.cue(0, i, 0));
            }
            Check.fails(IndexOutOfBoundsException.class, () -> d.cue(1, 1, 0));
            Check.fails(IndexOutOfBoundsException.class, () -> d.cue(2, 0, 0));
            Check.fails(IndexOutOfBoundsException.class, () -> d.cue(3, 0, 0));
        });
        for (int list : OFF_LISTS) {
            Check.fails(IndexOutOfBoundsException.class, () -> d.cue(list, 0, 0));
        }
        // The last place of a list of forty.
        LightingDesk many = new LightingDesk();
        for (int number = 1; number <= 40; number++) {
            many.record(3, number, false);
        }
        Check.is(40, () -> many.cue(3, 39, 0));
        Check.fails(IndexOutOfBoundsException.class, () -> many.cue(3, 40, 0));
        Check.fails(IndexOutOfBoundsException.class, () -> many.cue(2, 0, 0));
    }

    private static void cueOfWhat() {
        Check.says("what 0 its number, 1 moves, 2 up, 3 down, 4 delay, 5 follow");
        LightingDesk d = Desks.busy();
        int[] due = {10, 2, 100, 50, 5, 50};
        for (int what = 0; what <= 5; what++) {
            int w = what;
            Check.is(due[w], () -> d.cue(0, 0, w));
        }
        for (int what : new int[] {-1, 6, 7, LOW, HIGH}) {
            Check.fails(IndexOutOfBoundsException.class, () -> d.cue(0, 0, what));
        }
    }

    private static void cueCounts() {
        Check.says("for i = NONE what 0: how many cues there are. IndexOutOfBoundsException if there is none such.");
        LightingDesk d = Desks.busy();
        int[] due = {2, 1, 0, 0};
        for (int list = 0; list <= 3; list++) {
            int l = list;
            Check.is(due[l], () -> d.cue(l, LightingDesk.NONE, 0));
        }
        for (int what : new int[] {-1, 1, 2, 3, 4, 5, 6, LOW, HIGH}) {
            Check.fails(IndexOutOfBoundsException.class, () -> d.cue(0, LightingDesk.NONE, what));
        }
        for (int list : OFF_LISTS) {
            Check.fails(IndexOutOfBoundsException.class, () -> d.cue(list, LightingDesk.NONE, 0));
        }
    }

    private static void assign() {
        Check.says("A playback has a list: true; false if there is no such playback or list");
        LightingDesk d = Desks.busy();
        for (int list : new int[] {0, 3}) {
            Check.yes(() -> d.assign(5, list));
            Check.is(list, () -> d.playback(5, 0));
        }
        LightingDesk fresh = new LightingDesk();
        Check.yes(() -> fresh.assign(0, 3));
        Check.is(3, () -> fresh.playback(0, 0));
        Check.is(-1, () -> fresh.playback(1, 0));
        State.unchanged(d, () -> {
            for (int playback : OFF_PLAYBACKS) {
                Check.no(() -> d.assign(playback, 1));
            }
            for (int list : OFF_LISTS) {
                Check.no(() -> d.assign(5, list));
                Check.no(() -> d.assign(4, list));
            }
        });
    }

    private static void assignAfterAStart() {
        Check.says("or a cue was started in it.");
        LightingDesk d = Desks.withLevels(10);
        d.assign(5, 1);
        Check.fails(NoSuchElementException.class, () -> d.go(5, false, 0));
        // No cue was started by that.
        Check.yes(() -> d.assign(5, 2));
        Check.yes(() -> d.assign(5, 0));
        Check.is(1, () -> d.go(5, false, 0));
        State.unchanged(d, () -> {
            Check.no(() -> d.assign(5, 1));
            Check.no(() -> d.assign(5, 0));
        });
        // Not even when the cue and its whole list are gone, and not one playback for another.
        d.delete(0, 1, false);
        Check.no(() -> d.assign(5, 1));
        Check.yes(() -> d.assign(0, 1));
        Check.yes(() -> d.assign(4, 1));
    }

    private static void goOfNoPlayback() {
        Check.says("IllegalArgumentException if there is no such playback, or the tick is less than one told before, or more than 1000000000");
        LightingDesk d = Desks.busy();
        State.unchanged(d, () -> {
            for (int playback : OFF_PLAYBACKS) {
                Check.fails(IllegalArgumentException.class, () -> d.go(playback, false, 120));
                // Its tick is not told: the follow-on at 150 waits.
                Check.fails(IllegalArgumentException.class, () -> d.go(playback, true, 200));
            }
        });
        d.assign(5, 0);
        Check.is(10, () -> d.go(5, false, 120));
        Check.is(20, () -> d.go(0, false, 120));
    }

    private static void goAtAnEarlierTick() {
        Check.says("or the tick is less than one told before");
        LightingDesk d = Desks.busy();
        State.unchanged(d, () -> {
            for (int tick : new int[] {119, 100, 0, -1, LOW}) {
                Check.fails(IllegalArgumentException.class, () -> d.go(0, false, tick));
                Check.fails(IllegalArgumentException.class, () -> d.go(0, true, tick));
            }
        });
        Check.is(20, () -> d.go(0, false, 120));
        Check.is(120, () -> d.playback(0, 3));
        // Told by a go, and by a go that throws.
        Check.is(10, () -> d.go(0, true, 130));
        Check.fails(IllegalArgumentException.class, () -> d.go(0, false, 129));
        Check.fails(NoSuchElementException.class, () -> d.go(0, true, 140));
        Check.fails(IllegalArgumentException.class, () -> d.go(0, false, 139));
        Check.is(20, () -> d.go(0, false, 140));
    }

    private static void goAtTheLastTick() {
        Check.says("or more than 1000000000");
        LightingDesk d = Desks.withLevels(10, 20);
        State.unchanged(d, () -> {
            Check.fails(IllegalArgumentException.class, () -> d.go(0, false, LAST_TICK + 1));
            Check.fails(IllegalArgumentException.class, () -> d.go(0, false, HIGH));
        });
        Check.is(1, () -> d.go(0, false, LAST_TICK));
        Check.is(LAST_TICK, () -> d.count(3));
        Check.is(2, () -> d.go(0, false, LAST_TICK));
        Check.fails(IllegalArgumentException.class, () -> d.go(0, true, LAST_TICK + 1));
        Check.fails(IllegalArgumentException.class, () -> d.go(0, true, LAST_TICK - 1));
        Check.is(1, () -> d.go(0, true, LAST_TICK));
    }

    private static void goWithoutAList() {
        Check.says("NoSuchElementException if it has no list, or there is no such cue: the tick is told by that, too.");
        LightingDesk d = Desks.busy();
        Check.fails(NoSuchElementException.class, () -> d.go(5, false, 121));
        Check.is(121, () -> d.count(3));
        Check.fails(NoSuchElementException.class, () -> d.go(2, true, 149));
        Check.is(10, () -> d.playback(0, 1));
        Check.is(2, () -> d.count(4));
        // And the follow-on at 150 is done by that.
        Check.fails(NoSuchElementException.class, () -> d.go(5, false, 150));
        Check.is(150, () -> d.count(3));
        Check.is(20, () -> d.playback(0, 1));
        Check.is(150, () -> d.playback(0, 3));
        Check.is(3, () -> d.count(4));
        Check.is(-1, () -> d.playback(5, 3));
        Check.is(0, () -> d.playback(5, 1));
    }

    private static void goWithoutACue() {
        Check.says("or there is no such cue: the tick is told by that, too.");
        LightingDesk d = Desks.busy();
        // Playback 1 stands in the one cue of its list.
        Check.fails(NoSuchElementException.class, () -> d.go(1, false, 122));
        Check.is(122, () -> d.count(3));
        Check.fails(NoSuchElementException.class, () -> d.go(1, true, 150));
        Check.is(150, () -> d.count(3));
        Check.is(10, () -> d.playback(1, 1));
        Check.is(90, () -> d.playback(1, 3));
        Check.is(20, () -> d.playback(0, 1));
        // An empty list, and a first go that is a back.
        d.assign(2, 3);
        Check.fails(NoSuchElementException.class, () -> d.go(2, false, 151));
        d.assign(2, 0);
        Check.fails(NoSuchElementException.class, () -> d.go(2, true, 152));
        Check.is(152, () -> d.count(3));
        Check.is(10, () -> d.go(2, false, 152));
    }

    private static void master() {
        Check.says("A playback's master: true; false if there is no such playback or level.");
        LightingDesk d = Desks.busy();
        for (int playback : new int[] {0, 5}) {
            for (int level : new int[] {0, 255, 7}) {
                Check.yes(() -> d.master(playback, level));
                Check.is(level, () -> d.playback(playback, 2));
            }
        }
        State.unchanged(d, () -> {
            for (int playback : OFF_PLAYBACKS) {
                Check.no(() -> d.master(playback, 9));
            }
            for (int level : OFF_LEVELS) {
                Check.no(() -> d.master(1, level));
            }
        });
    }

    private static void outOfNoChannel() {
        Check.says("IllegalArgumentException if there is no such channel, or the tick is less than one told before, or more than 1000000000.");
        LightingDesk d = Desks.busy();
        State.unchanged(d, () -> {
            for (int channel : OFF_CHANNELS) {
                Check.fails(IllegalArgumentException.class, () -> d.out(channel, 120));
                // Its tick is not told: the follow-on at 150 waits.
                Check.fails(IllegalArgumentException.class, () -> d.out(channel, 200));
            }
        });
        Check.is(50, () -> d.out(0, 120));
        Check.is(6, () -> d.out(63, 120));
    }

    private static void outAtAnEarlierTick() {
        Check.says("or the tick is less than one told before");
        LightingDesk d = Desks.busy();
        State.unchanged(d, () -> {
            for (int tick : new int[] {119, 100, 0, -1, LOW}) {
                Check.fails(IllegalArgumentException.class, () -> d.out(0, tick));
                // Not even where the programmer has the level.
                Check.fails(IllegalArgumentException.class, () -> d.out(2, tick));
            }
        });
        Check.is(77, () -> d.out(2, 120));
        Check.is(77, () -> d.out(2, 121));
        Check.fails(IllegalArgumentException.class, () -> d.out(2, 120));
    }

    private static void outAtTheLastTick() {
        Check.says("or more than 1000000000.");
        LightingDesk d = Desks.busy();
        State.unchanged(d, () -> {
            Check.fails(IllegalArgumentException.class, () -> d.out(0, LAST_TICK + 1));
            Check.fails(IllegalArgumentException.class, () -> d.out(0, HIGH));
        });
        Check.is(100, () -> d.out(0, LAST_TICK));
        Check.is(LAST_TICK, () -> d.count(3));
        Check.is(100, () -> d.out(0, LAST_TICK));
        Check.fails(IllegalArgumentException.class, () -> d.out(0, LAST_TICK - 1));
        Check.fails(IllegalArgumentException.class, () -> d.out(0, LAST_TICK + 1));
    }

    private static void playbackOfNoNumber() {
        Check.says("IndexOutOfBoundsException if there is none such.");
        LightingDesk d = Desks.busy();
        d.assign(5, 3);
        Check.is(0, () -> d.playback(0, 0));
        Check.is(3, () -> d.playback(5, 0));
        for (int playback : OFF_PLAYBACKS) {
            Check.fails(IndexOutOfBoundsException.class, () -> d.playback(playback, 0));
            Check.fails(IndexOutOfBoundsException.class, () -> d.playback(playback, 4));
            Check.fails(IndexOutOfBoundsException.class, () -> d.playback(playback, 8));
        }
    }

    private static void playbackOfWhat() {
        Check.says("4 the follow-on, from 8 on the level of channel what - 8. IndexOutOfBoundsException if there is none such.");
        LightingDesk d = Desks.busy();
        int[] due = {0, 10, 255, 100, 150};
        for (int what = 0; what <= 4; what++) {
            int w = what;
            Check.is(due[w], () -> d.playback(0, w));
        }
        Check.is(30, () -> d.playback(0, 8));
        Check.is(60, () -> d.playback(1, 9));
        Check.is(0, () -> d.playback(0, 70));
        Check.is(6, () -> d.playback(0, 71));
        for (int what : new int[] {-1, 5, 6, 7, 72, LOW, HIGH}) {
            Check.fails(IndexOutOfBoundsException.class, () -> d.playback(0, what));
        }
    }

    private static void playbackWithoutAStart() {
        Check.says("3 the tick at which a cue started last, NONE without");
        LightingDesk d = Desks.withLevels(10, 20);
        Check.is(-1, () -> d.playback(0, 3));
        Check.fails(NoSuchElementException.class, () -> d.go(0, true, 0));
        Check.is(-1, () -> d.playback(0, 3));
        d.go(0, false, 0);
        Check.is(0, () -> d.playback(0, 3));
        d.go(0, false, 7);
        Check.is(7, () -> d.playback(0, 3));
        Check.fails(NoSuchElementException.class, () -> d.go(0, false, 9));
        Check.is(7, () -> d.playback(0, 3));
        Check.is(-1, () -> d.playback(5, 3));
    }

    private static void count() {
        Check.says("4: cues that were started so far. NONE for another what.");
        LightingDesk d = Desks.busy();
        int[] due = {3, 6, 1, 120, 2};
        for (int what = 0; what <= 4; what++) {
            int w = what;
            Check.is(due[w], () -> d.count(w));
        }
        for (int what : new int[] {-1, 5, 6, LOW, HIGH}) {
            Check.is(LightingDesk.NONE, () -> d.count(what));
        }
    }
}
