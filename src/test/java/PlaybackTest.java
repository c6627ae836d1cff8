import java.util.NoSuchElementException;

/** Promises 16 to 20: assign, go, master, out, playback. */
public final class PlaybackTest {
    private static final int LAST_TICK = 1000000000;

    public static void main(String[] args) {
        assignUntilACueStarted();
        goClimbsAndFalls();
        goRefuses();
        goTellsTheTickEvenWithoutACue();
        goLooksAtNumbersNotPlaces();
        fadesRoundTowardsZero();
        fadesWithDelayAndWithoutTime();
        fadesTakeOverFromWhereTheyAre();
        fadesHoldLooksAndTimesOfThen();
        channelsWithoutALookGoOn();
        followOnsAreDoneByTicks();
        followOnsEndAndAreReplaced();
        followOnOfNoTimeWaitsForTheNextTelling();
        followOnsTellLevelsAtTheirOwnTicks();
        mastersScaleIntensitiesAlone();
        programmerComesFirst();
        attributesGoByTheLatestStart();
        outRefuses();
        playbackRefuses();
        lastTicks();
        Check.end();
    }

    /** List 0 with cues 1, 2, 3 .. for channel 0, of these levels. */
    private static LightingDesk deskWithLevels(int... levels) {
        LightingDesk d = new LightingDesk();
        addCues(d, 0, 0, levels);
        d.assign(0, 0);
        return d;
    }

    private static void addCues(LightingDesk d, int list, int channel, int... levels) {
        for (int i = 0; i < levels.length; i++) {
            d.release(-1);
            d.set(channel, levels[i]);
            d.record(list, i + 1, false);
        }
        d.release(-1);
    }

    private static void assignUntilACueStarted() {
        LightingDesk d = deskWithLevels(10);
        Check.yes(() -> d.assign(5, 3));
        Check.is(3, () -> d.playback(5, 0));
        Check.yes(() -> d.assign(5, 0));
        Check.is(0, () -> d.playback(5, 0));
        Check.no(() -> d.assign(5, 4));
        Check.no(() -> d.assign(5, -1));
        Check.no(() -> d.assign(6, 0));
        Check.no(() -> d.assign(-1, 0));
        Check.no(() -> d.assign(Integer.MAX_VALUE, Integer.MIN_VALUE));
        Check.is(0, () -> d.playback(5, 0));
        Check.yes(() -> d.assign(4, 1));
        // A go that started nothing does not bind the list.
        Check.fails(NoSuchElementException.class, () -> d.go(4, false, 0));
        Check.yes(() -> d.assign(4, 0));
        // A start at tick 0 does.
        Check.is(1, () -> d.go(4, false, 0));
        Check.no(() -> d.assign(4, 1));
        Check.no(() -> d.assign(4, 0));
        Check.is(0, () -> d.playback(4, 0));
    }

    private static void goClimbsAndFalls() {
        LightingDesk d = deskWithLevels(10, 20, 30);
        Check.fails(NoSuchElementException.class, () -> d.go(0, true, 0));
        Check.is(1, () -> d.go(0, false, 1));
        Check.is(2, () -> d.go(0, false, 1));
        Check.is(3, () -> d.go(0, false, 2));
        Check.is(30, () -> d.out(0, 2));
        Check.fails(NoSuchElementException.class, () -> d.go(0, false, 3));
        Check.is(3, () -> d.playback(0, 1));
        Check.is(2, () -> d.playback(0, 3));
        Check.is(2, () -> d.go(0, true, 4));
        Check.is(20, () -> d.out(0, 4));
        Check.is(1, () -> d.go(0, true, 5));
        Check.fails(NoSuchElementException.class, () -> d.go(0, true, 6));
        Check.is(10, () -> d.playback(0, 8));
        Check.is(5, () -> d.count(4));
        Check.is(6, () -> d.count(3));
    }

    private static void goRefuses() {
        LightingDesk d = deskWithLevels(10, 20);
        Check.is(1, () -> d.go(0, false, 10));
        for (int playback : new int[] {-1, 6, Integer.MIN_VALUE, Integer.MAX_VALUE}) {
            Check.fails(IllegalArgumentException.class, () -> d.go(playback, false, 20));
        }
        for (int tick : new int[] {9, 0, -1, LAST_TICK + 1, Integer.MIN_VALUE, Integer.MAX_VALUE}) {
            Check.fails(IllegalArgumentException.class, () -> d.go(0, false, tick));
            // Of both the one told first.
            Check.fails(IllegalArgumentException.class, () -> d.go(3, false, tick));
        }
        Check.is(10, () -> d.count(3));
        Check.is(1, () -> d.playback(0, 1));
    }

    private static void goTellsTheTickEvenWithoutACue() {
        LightingDesk d = deskWithLevels(10, 20);
        d.delays(0, 1, 0, 5);
        d.go(0, false, 10);
        Check.fails(NoSuchElementException.class, () -> d.go(1, false, 16));
        Check.is(16, () -> d.count(3));
        Check.is(2, () -> d.playback(0, 1));
        Check.is(15, () -> d.playback(0, 3));
        Check.fails(NoSuchElementException.class, () -> d.go(0, false, 18));
        Check.is(18, () -> d.count(3));
        Check.fails(IllegalArgumentException.class, () -> d.out(0, 17));
    }

    private static void goLooksAtNumbersNotPlaces() {
        LightingDesk d = deskWithLevels(10, 20, 30, 40);
        d.go(0, false, 0);
        d.go(0, false, 0);
        d.go(0, false, 0);
        d.delete(0, 3, false);
        Check.is(3, () -> d.playback(0, 1));
        Check.is(30, () -> d.out(0, 1));
        Check.is(4, () -> d.go(0, false, 1));
        d.delete(0, 4, false);
        Check.is(2, () -> d.go(0, true, 2));
        Check.fails(NoSuchElementException.class, () -> d.go(0, false, 2));
        // Cues of other lists are out of reach.
        d.record(1, 9, false);
        Check.fails(NoSuchElementException.class, () -> d.go(0, false, 2));
        d.assign(1, 1);
        Check.is(9, () -> d.go(1, false, 2));
        Check.fails(NoSuchElementException.class, () -> d.go(1, true, 2));
    }

    private static void fadesRoundTowardsZero() {
        LightingDesk d = deskWithLevels(100, 90);
        d.times(0, 1, 7, 1);
        d.times(0, 2, 1, 7);
        d.go(0, false, 50);
        int[] up = {0, 14, 28, 42, 57, 71, 85, 100, 100};
        for (int x = 0; x < up.length; x++) {
            int tick = 50 + x;
            Check.is(up[x], () -> d.out(0, tick));
        }
        d.go(0, false, 60);
        int[] down = {100, 99, 98, 96, 95, 93, 92, 90, 90};
        for (int x = 0; x < down.length; x++) {
            int tick = 60 + x;
            Check.is(down[x], () -> d.out(0, tick));
        }
    }

    private static void fadesWithDelayAndWithoutTime() {
        LightingDesk d = deskWithLevels(100, 0);
        d.delays(0, 1, 5, -1);
        d.times(0, 2, 0, 10000);
        d.delays(0, 2, 10000, -1);
        d.go(0, false, 0);
        Check.is(0, () -> d.out(0, 4));
        Check.is(100, () -> d.out(0, 5));
        d.go(0, false, 5);
        Check.is(100, () -> d.out(0, 10005));
        Check.is(50, () -> d.out(0, 15005));
        Check.is(1, () -> d.out(0, 20004));
        Check.is(0, () -> d.out(0, 20005));
    }

    private static void fadesTakeOverFromWhereTheyAre() {
        LightingDesk d = deskWithLevels(100, 200, 0);
        d.times(0, 1, 10, 10);
        d.times(0, 2, 10, 10);
        d.times(0, 3, 10, 20);
        d.go(0, false, 0);
        d.go(0, false, 5);
        Check.is(50, () -> d.playback(0, 8));
        Check.is(125, () -> d.out(0, 10));
        d.go(0, false, 10);
        Check.is(125, () -> d.playback(0, 8));
        // 125 - 125 * 7 / 20 = 125 - 43.75
        Check.is(82, () -> d.out(0, 17));
        // Up again while it falls.
        Check.is(2, () -> d.go(0, true, 20));
        // 125 - 125 * 10 / 20 = 125 - 62.5
        Check.is(63, () -> d.playback(0, 8));
        Check.is(200, () -> d.out(0, 30));
        // An equal look is no change, whatever the times.
        LightingDesk even = deskWithLevels(100, 100);
        even.times(0, 2, 10, 20);
        even.delays(0, 2, 5, -1);
        even.go(0, false, 0);
        even.go(0, false, 1);
        for (int tick : new int[] {1, 5, 6, 11, 16, 26, 100}) {
            Check.is(100, () -> even.out(0, tick));
        }
    }

    private static void fadesHoldLooksAndTimesOfThen() {
        LightingDesk d = new LightingDesk();
        d.palette(1, 0, 100);
        d.use(0, 1);
        d.record(0, 1, false);
        d.release(-1);
        d.times(0, 1, 10, 10);
        d.assign(0, 0);
        d.go(0, false, 0);
        d.palette(1, 0, 200);
        d.times(0, 1, 1000, 1000);
        d.delays(0, 1, 500, 1);
        Check.is(50, () -> d.out(0, 5));
        d.delete(0, 1, false);
        Check.is(100, () -> d.out(0, 10));
        Check.is(-1, () -> d.playback(0, 4));
        Check.is(1, () -> d.playback(0, 1));
    }

    private static void channelsWithoutALookGoOn() {
        LightingDesk d = new LightingDesk();
        d.set(0, 100);
        d.record(0, 1, false);
        d.record(0, 2, false);
        d.release(-1);
        d.use(0, 9);
        d.set(1, 50);
        d.record(0, 3, false);
        d.release(-1);
        d.times(0, 1, 10, 10);
        d.assign(0, 0);
        d.go(0, false, 0);
        d.delete(0, 2, false);
        // Cue 3 has no look of channel 0: its palette has no level.
        Check.is(3, () -> d.go(0, false, 5));
        Check.is(50, () -> d.playback(0, 8));
        Check.is(50, () -> d.playback(0, 9));
        Check.is(80, () -> d.out(0, 8));
        Check.is(100, () -> d.out(0, 12));
        // Back to cue 1: channel 1 has no look there and stays.
        d.go(0, true, 20);
        Check.is(50, () -> d.out(1, 99));
    }

    private static void followOnsAreDoneByTicks() {
        LightingDesk d = deskWithLevels(10, 20, 30, 40);
        addCues(d, 1, 0, 11, 21, 31);
        d.assign(1, 1);
        d.delays(0, 1, 0, 5);
        d.delays(0, 2, 0, 0);
        d.delays(0, 3, 0, 7);
        d.delays(1, 1, 0, 6);
        d.kind(0, true);
        d.go(0, false, 10);
        d.go(1, false, 10);
        Check.is(15, () -> d.playback(0, 4));
        Check.is(16, () -> d.playback(1, 4));
        Check.is(11, () -> d.out(0, 14));
        Check.is(1, () -> d.playback(0, 1));
        Check.is(30, () -> d.out(0, 15));
        Check.is(3, () -> d.playback(0, 1));
        Check.is(22, () -> d.playback(0, 4));
        Check.is(4, () -> d.count(4));
        // Both at once, in the order of their ticks: playback 0 is the later one.
        Check.is(40, () -> d.out(0, 1000));
        Check.is(2, () -> d.playback(1, 1));
        Check.is(16, () -> d.playback(1, 3));
        Check.is(22, () -> d.playback(0, 3));
        Check.is(6, () -> d.count(4));
    }

    private static void followOnsEndAndAreReplaced() {
        LightingDesk d = deskWithLevels(10, 20, 30);
        d.delays(0, 1, 0, 5);
        d.delays(0, 3, 0, 4);
        d.go(0, false, 0);
        // A cue without FOLLOW takes the follow-on away.
        Check.is(2, () -> d.go(0, false, 3));
        Check.is(-1, () -> d.playback(0, 4));
        Check.is(20, () -> d.out(0, 50));
        // Behind the last cue the follow-on is gone, and nothing starts.
        Check.is(3, () -> d.go(0, false, 60));
        Check.is(64, () -> d.playback(0, 4));
        d.out(0, 63);
        Check.is(64, () -> d.playback(0, 4));
        d.out(0, 64);
        Check.is(-1, () -> d.playback(0, 4));
        Check.is(3, () -> d.playback(0, 1));
        Check.is(60, () -> d.playback(0, 3));
        Check.is(3, () -> d.count(4));
        // A cue recorded later does not bring it back.
        d.record(0, 9, false);
        d.out(0, 100);
        Check.is(3, () -> d.playback(0, 1));
        // A follow-on goes forward after a back, too, and before the go that is told with it.
        d.go(0, true, 110);
        d.go(0, true, 110);
        Check.is(115, () -> d.playback(0, 4));
        Check.is(3, () -> d.go(0, false, 115));
        Check.is(119, () -> d.playback(0, 4));
        Check.is(3, () -> d.go(0, true, 119));
    }

    private static void followOnOfNoTimeWaitsForTheNextTelling() {
        LightingDesk d = deskWithLevels(10, 20, 30);
        d.delays(0, 1, 0, 0);
        d.delays(0, 2, 0, 0);
        Check.is(1, () -> d.go(0, false, 7));
        Check.is(7, () -> d.playback(0, 4));
        Check.is(1, () -> d.playback(0, 1));
        Check.is(10, () -> d.playback(0, 8));
        // A refused call tells no tick.
        Check.fails(IllegalArgumentException.class, () -> d.out(64, 7));
        Check.fails(IllegalArgumentException.class, () -> d.go(6, false, 7));
        Check.is(1, () -> d.playback(0, 1));
        Check.is(30, () -> d.out(0, 7));
        Check.is(3, () -> d.count(4));
    }

    private static void followOnsTellLevelsAtTheirOwnTicks() {
        LightingDesk d = deskWithLevels(100, 200);
        d.times(0, 1, 10, 10);
        d.delays(0, 1, 0, 5);
        d.times(0, 2, 100, 100);
        d.go(0, false, 0);
        // Cue 2 starts at 5 from 50, though 55 is the tick that is told.
        Check.is(125, () -> d.out(0, 55));
        Check.is(5, () -> d.playback(0, 3));
        // Forty cues of no time in each playback's list end, too.
        LightingDesk many = new LightingDesk();
        for (int n = 1; n <= 40; n++) {
            many.record(0, n, false);
            many.delays(0, n, 0, 0);
        }
        for (int p = 0; p < 6; p++) {
            many.assign(p, 0);
            many.go(p, false, 0);
        }
        Check.is(0, () -> many.out(0, 0));
        Check.is(240, () -> many.count(4));
        Check.is(40, () -> many.playback(5, 1));
        Check.is(-1, () -> many.playback(5, 4));
    }

    private static void mastersScaleIntensitiesAlone() {
        LightingDesk d = deskWithLevels(200);
        addCues(d, 1, 0, 150);
        d.assign(5, 1);
        d.go(0, false, 0);
        d.go(5, false, 1);
        Check.is(200, () -> d.out(0, 1));
        Check.yes(() -> d.master(0, 128));
        Check.is(128, () -> d.playback(0, 2));
        // 200 * 128 / 255 = 100.39, less than 150
        Check.is(150, () -> d.out(0, 1));
        Check.yes(() -> d.master(5, 0));
        Check.is(100, () -> d.out(0, 1));
        Check.is(150, () -> d.playback(5, 8));
        d.kind(0, true);
        Check.is(150, () -> d.out(0, 1));
        Check.yes(() -> d.master(5, 255));
        Check.no(() -> d.master(5, 256));
        Check.no(() -> d.master(5, -1));
        Check.no(() -> d.master(6, 1));
        Check.no(() -> d.master(-1, 1));
        Check.no(() -> d.master(Integer.MIN_VALUE, Integer.MAX_VALUE));
        Check.is(255, () -> d.playback(5, 2));
    }

    private static void programmerComesFirst() {
        LightingDesk d = deskWithLevels(200);
        d.go(0, false, 0);
        d.set(0, 0);
        Check.is(0, () -> d.out(0, 0));
        d.use(0, 3);
        Check.is(200, () -> d.out(0, 0));
        d.palette(3, 0, 5);
        Check.is(5, () -> d.out(0, 0));
        d.kind(0, true);
        Check.is(5, () -> d.out(0, 0));
        d.palette(3, 0, -1);
        Check.is(200, () -> d.out(0, 0));
        Check.is(200, () -> d.playback(0, 8));
    }

    private static void attributesGoByTheLatestStart() {
        LightingDesk d = deskWithLevels(10, 20);
        addCues(d, 1, 0, 90);
        addCues(d, 2, 1, 70);
        d.kind(0, true);
        d.assign(3, 1);
        d.assign(5, 2);
        Check.is(0, () -> d.out(0, 0));
        d.go(3, false, 4);
        d.go(0, false, 4);
        // Of one tick the playback with the greatest number, though it was told first.
        Check.is(90, () -> d.out(0, 4));
        d.go(0, false, 5);
        Check.is(20, () -> d.out(0, 5));
        // A start without a look of the channel does not count.
        d.go(5, false, 6);
        Check.is(20, () -> d.out(0, 6));
        Check.is(70, () -> d.out(1, 6));
        // A fade that waits holds the channel at the level it has in that playback.
        LightingDesk late = deskWithLevels(10);
        addCues(late, 1, 0, 90);
        late.kind(0, true);
        late.assign(1, 1);
        late.delays(0, 1, 5, -1);
        late.go(1, false, 1);
        late.go(0, false, 2);
        Check.is(0, () -> late.out(0, 6));
        Check.is(10, () -> late.out(0, 7));
    }

    private static void outRefuses() {
        LightingDesk d = deskWithLevels(10);
        d.out(0, 10);
        for (int channel : new int[] {-1, 64, Integer.MIN_VALUE, Integer.MAX_VALUE}) {
            Check.fails(IllegalArgumentException.class, () -> d.out(channel, 20));
        }
        for (int tick : new int[] {9, -1, LAST_TICK + 1, Integer.MIN_VALUE, Integer.MAX_VALUE}) {
            Check.fails(IllegalArgumentException.class, () -> d.out(0, tick));
        }
        Check.is(10, () -> d.count(3));
        Check.is(0, () -> d.out(63, 10));
        // The tick is asked for even where the programmer has the answer.
        d.set(0, 3);
        Check.fails(IllegalArgumentException.class, () -> d.out(0, 9));
        Check.is(3, () -> d.out(0, 11));
        Check.is(11, () -> d.count(3));
    }

    private static void playbackRefuses() {
        LightingDesk d = new LightingDesk();
        for (int playback : new int[] {-1, 6, Integer.MIN_VALUE, Integer.MAX_VALUE}) {
            Check.fails(IndexOutOfBoundsException.class, () -> d.playback(playback, 0));
            Check.fails(IndexOutOfBoundsException.class, () -> d.playback(playback, 8));
        }
        for (int what : new int[] {-1, 5, 6, 7, 72, Integer.MIN_VALUE, Integer.MAX_VALUE}) {
            Check.fails(IndexOutOfBoundsException.class, () -> d.playback(0, what));
        }
        Check.is(0, () -> d.playback(5, 71));
    }

    private static void lastTicks() {
        LightingDesk d = deskWithLevels(255, 100);
        d.times(0, 1, 10000, 10000);
        d.delays(0, 1, 10000, 10000);
        Check.is(1, () -> d.go(0, false, LAST_TICK));
        Check.is(LAST_TICK + 10000, () -> d.playback(0, 4));
        Check.is(0, () -> d.out(0, LAST_TICK));
        Check.is(2, () -> d.go(0, false, LAST_TICK));
        Check.is(100, () -> d.out(0, LAST_TICK));
        Check.fails(IllegalArgumentException.class, () -> d.go(0, true, LAST_TICK + 1));
        Check.is(LAST_TICK, () -> d.count(3));
    }
}
