import java.util.NoSuchElementException;

/** The document's "Terms" from TIME on: each sentence that names an edge, in its order. */
public final class EdgesOfPlayTest {
    private static final int NONE = LightingDesk.NONE;
    private static final int LAST_TICK = 1000000000;

    public static void main(String[] args) {
        ticksNeverFall();
        playbacksAtFirst();
        levelsNeverSetAreZero();
        startedCueIsTheCurrentOne();
        upIfTheLookIsGreater();
        downIfTheLookIsLess();
        beforeTheFade();
        fromTheFadesEndOn();
        fadeOfNoTime();
        fadeOfOneTick();
        fadeOfTheLongestTimes();
        fadeAtTheLastTick();
        roundedTowardsZero();
        fadeFromTheLevelAtThatTick();
        looksAndTimesOfThen();
        otherChannelsGoOn();
        followOnIsTheTickAndFollow();
        noFollowOnWithout();
        fadesThatWereThereGo();
        followOnsThatWereThereGo();
        leastNumberAbove();
        greatestNumberBelow();
        followOnAtThatTickOrBefore();
        followOnsAreDoneFirst();
        followOnsByTicks();
        followOnsThatComeByThat();
        followOnsOfForty();
        followOnGoesAtItsTick();
        followOnWithoutACueIsGone();
        followOnOfNoTimeByAGo();
        programmerWithALevel();
        programmerWithoutALevel();
        greatestOfAllPlaybacks();
        masterRoundedDown();
        attributeByTicks();
        attributeOfOneTick();
        attributeOfALookOfThen();
        attributeWithoutOne();
        theExceptionToldFirst();
        Check.end();
    }

    private static void ticksNeverFall() {
        Check.says("TIME are ticks, which never fall.");
        LightingDesk d = Desks.withLevels(10, 20);
        Check.is(0, () -> d.out(0, 5));
        Check.fails(IllegalArgumentException.class, () -> d.out(0, 4));
        Check.fails(IllegalArgumentException.class, () -> d.go(0, false, 4));
        Check.is(1, () -> d.go(0, false, 5));
        Check.is(10, () -> d.out(0, 5));
        Check.is(2, () -> d.go(0, false, 6));
        Check.fails(IllegalArgumentException.class, () -> d.out(0, 5));
        Check.is(6, () -> d.count(3));
    }

    private static void playbacksAtFirst() {
        Check.says("PLAYBACKS 0 .. 5 have a list (NONE at first), a MASTER (255 at first), for each channel a LEVEL that goes on in time (never set at first, as 0), a CURRENT cue's number (0 at first), and a FOLLOW-ON tick, or NONE.");
        LightingDesk d = new LightingDesk();
        int[] due = {NONE, 0, 255, NONE, NONE};
        for (int playback = 0; playback <= 5; playback++) {
            int p = playback;
            for (int what = 0; what <= 4; what++) {
                int w = what;
                Check.is(due[w], () -> d.playback(p, w));
            }
            for (int channel = 0; channel < 64; channel++) {
                int w = 8 + channel;
                Check.is(0, () -> d.playback(p, w));
            }
        }
        Check.fails(IndexOutOfBoundsException.class, () -> d.playback(-1, 0));
        Check.fails(IndexOutOfBoundsException.class, () -> d.playback(6, 0));
    }

    private static void levelsNeverSetAreZero() {
        Check.says("(never set at first, as 0)");
        // As an intensity and as an attribute, before a start and after one without a look of it.
        LightingDesk d = Desks.withLevels(200);
        d.kind(63, true);
        Check.is(0, () -> d.out(1, 0));
        Check.is(0, () -> d.out(63, 0));
        d.go(0, false, 0);
        Check.is(0, () -> d.out(1, 0));
        Check.is(0, () -> d.out(63, 0));
        Check.is(200, () -> d.playback(0, 8));
        Check.is(0, () -> d.playback(0, 9));
        Check.is(0, () -> d.playback(0, 71));
        Check.is(0, () -> d.playback(1, 8));
    }

    private static void startedCueIsTheCurrentOne() {
        Check.says("A cue STARTS in a playback at a tick: it is the current one");
        LightingDesk d = new LightingDesk();
        d.record(0, 1, false);
        d.record(0, 9999, false);
        d.assign(5, 0);
        d.assign(0, 0);
        // A cue without any look starts as well.
        Check.is(1, () -> d.go(5, false, 3));
        Check.is(1, () -> d.playback(5, 1));
        Check.is(3, () -> d.playback(5, 3));
        Check.is(0, () -> d.playback(0, 1));
        Check.is(9999, () -> d.go(5, false, 3));
        Check.is(9999, () -> d.playback(5, 1));
        Check.is(2, () -> d.count(4));
    }

    private static void upIfTheLookIsGreater() {
        Check.says("n UP if b is a or more");
        LightingDesk d = Desks.withLevels(100, 101, 101);
        d.go(0, false, 0);
        d.times(0, 2, 10, 20);
        d.go(0, false, 10);
        Check.is(100, () -> d.out(0, 19));
        Check.is(101, () -> d.out(0, 20));
        // b is a: whatever the times, the level stays.
        d.times(0, 3, 10, 0);
        d.go(0, false, 30);
        Check.is(101, () -> d.out(0, 30));
        Check.is(101, () -> d.out(0, 39));
        Check.is(101, () -> d.out(0, 40));
    }

    private static void downIfTheLookIsLess() {
        Check.says("else DOWN");
        LightingDesk d = Desks.withLevels(100, 99, 0);
        d.go(0, false, 0);
        d.times(0, 2, 10, 20);
        d.go(0, false, 10);
        Check.is(100, () -> d.out(0, 20));
        Check.is(100, () -> d.out(0, 29));
        Check.is(99, () -> d.out(0, 30));
        d.times(0, 3, 20, 9);
        d.go(0, false, 30);
        Check.is(88, () -> d.out(0, 31));
        Check.is(11, () -> d.out(0, 38));
        Check.is(0, () -> d.out(0, 39));
    }

    private static void beforeTheFade() {
        Check.says("at a tick x before t the level is a");
        LightingDesk d = Desks.withLevels(40, 240);
        d.go(0, false, 0);
        d.delays(0, 2, 10, NONE);
        d.times(0, 2, 4, 0);
        d.go(0, false, 100);
        Check.is(40, () -> d.out(0, 100));
        Check.is(40, () -> d.out(0, 109));
        Check.is(40, () -> d.out(0, 110));
        Check.is(90, () -> d.out(0, 111));
    }

    private static void fromTheFadesEndOn() {
        Check.says("from t + n on b");
        LightingDesk d = Desks.withLevels(40, 240);
        d.go(0, false, 0);
        d.delays(0, 2, 10, NONE);
        d.times(0, 2, 4, 0);
        d.go(0, false, 100);
        Check.is(190, () -> d.out(0, 113));
        Check.is(240, () -> d.out(0, 114));
        Check.is(240, () -> d.out(0, 115));
        Check.is(240, () -> d.out(0, LAST_TICK));
    }

    private static void fadeOfNoTime() {
        Check.says("from t + n on b");
        LightingDesk d = Desks.withLevels(40, 240, 10);
        // n is 0, without a delay and with one, up and down.
        d.go(0, false, 0);
        Check.is(40, () -> d.playback(0, 8));
        d.delays(0, 2, 10, NONE);
        d.times(0, 2, 0, 99);
        d.go(0, false, 100);
        Check.is(40, () -> d.out(0, 109));
        Check.is(240, () -> d.out(0, 110));
        d.times(0, 3, 99, 0);
        d.go(0, false, 110);
        Check.is(10, () -> d.out(0, 110));
    }

    private static void fadeOfOneTick() {
        Check.says("from t + n on b");
        LightingDesk d = Desks.withLevels(40, 0);
        d.times(0, 1, 1, 0);
        d.times(0, 2, 0, 1);
        d.go(0, false, 7);
        Check.is(0, () -> d.out(0, 7));
        Check.is(40, () -> d.out(0, 8));
        d.go(0, false, 8);
        Check.is(40, () -> d.out(0, 8));
        Check.is(0, () -> d.out(0, 9));
    }

    private static void fadeOfTheLongestTimes() {
        Check.says("between them a and (b - a) (x - t) / n");
        LightingDesk d = Desks.withLevels(255, 0);
        for (int number = 1; number <= 2; number++) {
            d.times(0, number, 10000, 10000);
            d.delays(0, number, 10000, NONE);
        }
        d.go(0, false, 0);
        Check.is(0, () -> d.out(0, 10000));
        Check.is(0, () -> d.out(0, 10039));
        Check.is(1, () -> d.out(0, 10040));
        Check.is(127, () -> d.out(0, 15000));
        Check.is(254, () -> d.out(0, 19999));
        Check.is(255, () -> d.out(0, 20000));
        d.go(0, false, 20000);
        Check.is(255, () -> d.out(0, 30039));
        Check.is(254, () -> d.out(0, 30040));
        Check.is(1, () -> d.out(0, 39999));
        Check.is(0, () -> d.out(0, 40000));
    }

    private static void fadeAtTheLastTick() {
        Check.says("with a the playback's level at that tick, t the tick and DELAY");
        LightingDesk d = Desks.withLevels(255, 100);
        d.times(0, 1, 10000, 10000);
        d.delays(0, 1, 10000, 10000);
        d.go(0, false, LAST_TICK);
        // The fade and the follow-on lie behind the last tick of all.
        Check.is(0, () -> d.out(0, LAST_TICK));
        Check.is(LAST_TICK + 10000, () -> d.playback(0, 4));
        Check.is(2, () -> d.go(0, false, LAST_TICK));
        Check.is(100, () -> d.out(0, LAST_TICK));
        // One that ends at the last tick does end.
        LightingDesk e = Desks.withLevels(255);
        e.times(0, 1, 100, 0);
        e.delays(0, 1, 50, NONE);
        e.go(0, false, LAST_TICK - 150);
        Check.is(0, () -> e.out(0, LAST_TICK - 100));
        Check.is(252, () -> e.out(0, LAST_TICK - 1));
        Check.is(255, () -> e.out(0, LAST_TICK));
    }

    private static void roundedTowardsZero() {
        Check.says("which is rounded towards 0.");
        LightingDesk d = Desks.withLevels(10, 0, 7);
        d.times(0, 1, 4, 0);
        d.times(0, 2, 0, 4);
        d.times(0, 3, 3, 0);
        int[] up = {0, 2, 5, 7, 10};
        int[] down = {10, 8, 5, 3, 0};
        int[] upAgain = {0, 2, 4, 7, 7};
        d.go(0, false, 100);
        for (int x = 0; x < 5; x++) {
            int tick = x;
            Check.is(up[tick], () -> d.out(0, 100 + tick));
        }
        // -2.5 is -2, not -3.
        d.go(0, false, 200);
        for (int x = 0; x < 5; x++) {
            int tick = x;
            Check.is(down[tick], () -> d.out(0, 200 + tick));
        }
        d.go(0, false, 300);
        for (int x = 0; x < 5; x++) {
            int tick = x;
            Check.is(upAgain[tick], () -> d.out(0, 300 + tick));
        }
    }

    private static void fadeFromTheLevelAtThatTick() {
        Check.says("with a the playback's level at that tick");
        LightingDesk d = Desks.withLevels(100, 200, 0);
        for (int number = 1; number <= 3; number++) {
            d.times(0, number, 10, 10);
        }
        d.go(0, false, 0);
        d.go(0, false, 5);
        Check.is(50, () -> d.playback(0, 8));
        Check.is(65, () -> d.out(0, 6));
        // In its own playback: another one's level or master is nothing to it.
        d.master(0, 0);
        Desks.addCues(d, 1, 0, 7);
        d.assign(1, 1);
        d.go(1, false, 6);
        d.go(0, false, 10);
        Check.is(125, () -> d.playback(0, 8));
        d.out(0, 12);
        Check.is(100, () -> d.playback(0, 8));
        // And while it waits for its delay.
        d.delays(0, 2, 5, NONE);
        d.go(0, true, 14);
        d.out(0, 17);
        Check.is(75, () -> d.playback(0, 8));
        d.go(0, false, 17);
        d.out(0, 19);
        Check.is(60, () -> d.playback(0, 8));
    }

    private static void looksAndTimesOfThen() {
        Check.says("(Looks and times are those of then.)");
        LightingDesk d = new LightingDesk();
        d.palette(0, 0, 100);
        d.use(0, 0);
        d.record(0, 1, false);
        d.release(-1);
        d.times(0, 1, 10, 10);
        d.delays(0, 1, 2, 50);
        d.assign(0, 0);
        d.go(0, false, 0);
        d.times(0, 1, 99, 99);
        d.delays(0, 1, 99, 1);
        d.palette(0, 0, 200);
        Check.is(0, () -> d.out(0, 2));
        Check.is(10, () -> d.out(0, 3));
        Check.is(50, () -> d.playback(0, 4));
        d.palette(0, 0, NONE);
        Check.is(20, () -> d.out(0, 4));
        Desks.only(d, 0, 7);
        d.record(0, 1, false);
        d.release(-1);
        Check.is(30, () -> d.out(0, 5));
        d.delete(0, 1, false);
        Check.is(100, () -> d.out(0, 12));
        Check.is(1, () -> d.playback(0, 1));
        Check.is(50, () -> d.playback(0, 4));
    }

    private static void otherChannelsGoOn() {
        Check.says("Other channels go on as they do.");
        LightingDesk d = new LightingDesk();
        d.set(0, 100);
        d.set(1, 100);
        d.set(2, 100);
        d.record(0, 1, false);
        d.release(-1);
        // Cue 2 has no look of channel 0: its palette has no level.
        d.use(0, 9);
        d.set(2, 0);
        d.record(0, 2, false);
        d.release(-1);
        d.times(0, 1, 10, 10);
        d.assign(0, 0);
        d.go(0, false, 0);
        d.go(0, false, 5);
        Check.is(50, () -> d.playback(0, 8));
        // Channel 1 is tracked: it has a look, and so a fade of cue 2.
        Check.is(100, () -> d.playback(0, 9));
        Check.is(0, () -> d.playback(0, 10));
        Check.is(60, () -> d.out(0, 6));
        Check.is(100, () -> d.out(0, 10));
        Check.is(100, () -> d.out(0, 99));
        Check.is(0, () -> d.out(2, 99));
        otherChannelsBehindUnset();
    }

    private static void otherChannelsBehindUnset() {
        LightingDesk d = new LightingDesk();
        d.record(0, 2, false);
        d.set(0, 100);
        d.record(0, 1, true);
        d.release(-1);
        d.times(0, 1, 10, 10);
        d.assign(0, 0);
        d.go(0, false, 0);
        Check.is(2, () -> d.go(0, false, 5));
        Check.is(50, () -> d.playback(0, 8));
        Check.is(90, () -> d.out(0, 9));
        Check.is(100, () -> d.out(0, 10));
    }

    private static void followOnIsTheTickAndFollow() {
        Check.says("The follow-on is the tick and FOLLOW");
        LightingDesk d = Desks.withLevels(10, 20, 30);
        d.delays(0, 1, 10000, 10000);
        d.go(0, false, 7);
        // Not with the delay or the times.
        Check.is(10007, () -> d.playback(0, 4));
        d.delays(0, 2, 9, 0);
        d.times(0, 2, 9, 9);
        d.go(0, false, 7);
        Check.is(7, () -> d.playback(0, 4));
        Check.is(2, () -> d.playback(0, 1));
    }

    private static void noFollowOnWithout() {
        Check.says("NONE without.");
        LightingDesk d = Desks.withLevels(10, 20);
        d.delays(0, 1, 5, NONE);
        d.go(0, false, 0);
        Check.is(NONE, () -> d.playback(0, 4));
        d.out(0, LAST_TICK);
        Check.is(1, () -> d.playback(0, 1));
        Check.is(1, () -> d.count(4));
    }

    private static void fadesThatWereThereGo() {
        Check.says("Fades and follow-ons that were there go by that.");
        LightingDesk d = Desks.withLevels(100, 0);
        d.times(0, 1, 100, 100);
        d.delays(0, 1, 10, NONE);
        d.go(0, false, 0);
        // The fade that waits, and the one that runs, never come back.
        d.go(0, false, 5);
        Check.is(0, () -> d.out(0, 60));
        d.go(0, true, 60);
        Check.is(50, () -> d.out(0, 120));
        d.go(0, false, 120);
        Check.is(0, () -> d.out(0, 120));
        Check.is(0, () -> d.out(0, 170));
        Check.is(0, () -> d.out(0, 171));
    }

    private static void followOnsThatWereThereGo() {
        Check.says("Fades and follow-ons that were there go by that.");
        LightingDesk d = Desks.withLevels(10, 20, 30, 40);
        d.delays(0, 1, 0, 10);
        d.delays(0, 3, 0, 100);
        d.go(0, false, 0);
        Check.is(10, () -> d.playback(0, 4));
        Check.is(2, () -> d.go(0, false, 9));
        Check.is(NONE, () -> d.playback(0, 4));
        Check.is(20, () -> d.out(0, 10));
        Check.is(20, () -> d.out(0, 50));
        Check.is(1, () -> d.go(0, true, 50));
        Check.is(60, () -> d.playback(0, 4));
        Check.is(2, () -> d.go(0, false, 51));
        Check.is(3, () -> d.go(0, false, 51));
        Check.is(151, () -> d.playback(0, 4));
        Check.is(30, () -> d.out(0, 150));
        Check.is(40, () -> d.out(0, 151));
    }

    private static void leastNumberAbove() {
        Check.says("TO GO starts the cue of the list with the least number above the current one");
        LightingDesk d = new LightingDesk();
        for (int number : new int[] {1, 2, 9998, 9999}) {
            d.record(1, number, false);
        }
        d.record(0, 5000, false);
        d.record(2, 5000, false);
        d.assign(0, 1);
        Check.is(1, () -> d.go(0, false, 0));
        Check.is(2, () -> d.go(0, false, 0));
        // One that is made between is the least then.
        d.record(1, 3, false);
        Check.is(3, () -> d.go(0, false, 0));
        // One that is made or taken away at the current number.
        d.delete(1, 3, false);
        Check.is(9998, () -> d.go(0, false, 0));
        d.record(1, 4, false);
        Check.is(9999, () -> d.go(0, false, 0));
        Check.fails(NoSuchElementException.class, () -> d.go(0, false, 0));
        d.delete(1, 9999, false);
        Check.fails(NoSuchElementException.class, () -> d.go(0, false, 0));
        Check.is(9999, () -> d.playback(0, 1));
    }

    private static void greatestNumberBelow() {
        Check.says("BACK the one with the greatest below it.");
        LightingDesk d = new LightingDesk();
        for (int number : new int[] {1, 2, 9998, 9999}) {
            d.record(1, number, false);
        }
        d.record(0, 5000, false);
        d.record(2, 5000, false);
        d.assign(0, 1);
        Check.fails(NoSuchElementException.class, () -> d.go(0, true, 0));
        for (int go = 0; go < 4; go++) {
            d.go(0, false, 0);
        }
        Check.is(9999, () -> d.playback(0, 1));
        Check.is(9998, () -> d.go(0, true, 0));
        d.delete(1, 9998, false);
        d.record(1, 9997, false);
        Check.is(9997, () -> d.go(0, true, 0));
        Check.is(2, () -> d.go(0, true, 0));
        Check.is(1, () -> d.go(0, true, 0));
        // Cue 5000 of the list before is not below it.
        Check.fails(NoSuchElementException.class, () -> d.go(0, true, 0));
        Check.is(1, () -> d.playback(0, 1));
    }

    private static void followOnAtThatTickOrBefore() {
        Check.says("When a tick is told, all follow-ons that are at that tick or before it are done first");
        for (int told : new int[] {14, 15, 16}) {
            LightingDesk d = Desks.withLevels(10, 20);
            d.delays(0, 1, 0, 5);
            d.go(0, false, 10);
            Check.is(told < 15 ? 10 : 20, () -> d.out(0, told));
            Check.is(told < 15 ? 1 : 2, () -> d.playback(0, 1));
            Check.is(told < 15 ? 15 : NONE, () -> d.playback(0, 4));
            // Nothing but a tick that is told does them.
            Check.is(told < 15 ? 1 : 2, () -> d.count(4));
        }
        LightingDesk last = Desks.withLevels(10, 20);
        last.delays(0, 1, 0, 10000);
        last.go(0, false, LAST_TICK - 10000);
        Check.is(10, () -> last.out(0, LAST_TICK - 1));
        Check.is(20, () -> last.out(0, LAST_TICK));
    }

    private static void followOnsAreDoneFirst() {
        Check.says("are done first");
        LightingDesk d = Desks.withLevels(10, 20, 30);
        d.delays(0, 1, 0, 5);
        d.go(0, false, 10);
        // At the follow-on's own tick: cue 2 by it, then cue 3 by the go.
        Check.is(3, () -> d.go(0, false, 15));
        Check.is(3, () -> d.count(4));
        LightingDesk back = Desks.withLevels(10, 20, 30);
        back.delays(0, 1, 0, 5);
        back.go(0, false, 10);
        Check.is(1, () -> back.go(0, true, 15));
        Check.is(20, () -> back.playback(0, 4));
        LightingDesk early = Desks.withLevels(10, 20, 30);
        early.delays(0, 1, 0, 5);
        early.go(0, false, 10);
        Check.is(2, () -> early.go(0, false, 14));
        Check.is(2, () -> early.count(4));
    }

    private static void followOnsByTicks() {
        Check.says("by ticks, of one tick by numbers of playbacks");
        LightingDesk d = Desks.withLevels(10, 20);
        Desks.addCues(d, 1, 0, 11, 21);
        d.kind(0, true);
        d.assign(1, 1);
        d.delays(0, 1, 0, 6);
        d.delays(1, 1, 0, 5);
        d.go(0, false, 10);
        d.go(1, false, 10);
        // Playback 1 at 15, playback 0 at 16, both told by 100: playback 0 started last.
        Check.is(20, () -> d.out(0, 100));
        Check.is(16, () -> d.playback(0, 3));
        Check.is(15, () -> d.playback(1, 3));
        // Of one tick the greater number started last.
        LightingDesk even = Desks.withLevels(10, 20);
        Desks.addCues(even, 1, 0, 11, 21);
        even.kind(0, true);
        even.assign(5, 1);
        even.delays(0, 1, 0, 5);
        even.delays(1, 1, 0, 5);
        even.go(5, false, 10);
        even.go(0, false, 10);
        Check.is(21, () -> even.out(0, 100));
        Check.is(15, () -> even.playback(0, 3));
        Check.is(15, () -> even.playback(5, 3));
    }

    private static void followOnsThatComeByThat() {
        Check.says("(also those that come by that)");
        LightingDesk d = Desks.withLevels(10, 20, 30, 40, 50);
        d.delays(0, 1, 0, 5);
        d.delays(0, 2, 0, 0);
        d.delays(0, 3, 0, 1);
        d.delays(0, 4, 0, 1);
        d.go(0, false, 10);
        // 15: cues 2 and 3; 16: cue 4; 17: cue 5.
        Check.is(30, () -> d.out(0, 15));
        Check.is(3, () -> d.count(4));
        Check.is(50, () -> d.out(0, 17));
        Check.is(5, () -> d.count(4));
        Check.is(17, () -> d.playback(0, 3));
    }

    private static void followOnsOfForty() {
        Check.says("(also those that come by that)");
        LightingDesk d = new LightingDesk();
        for (int number = 1; number <= 40; number++) {
            d.record(0, number, false);
            d.delays(0, number, 0, number % 2 * 10000);
        }
        for (int playback = 0; playback < 6; playback++) {
            d.assign(playback, 0);
            d.go(playback, false, playback);
        }
        Check.is(0, () -> d.out(0, LAST_TICK));
        Check.is(240, () -> d.count(4));
        for (int playback = 0; playback < 6; playback++) {
            int p = playback;
            Check.is(40, () -> d.playback(p, 1));
            Check.is(200000 + p, () -> d.playback(p, 3));
            Check.is(NONE, () -> d.playback(p, 4));
        }
    }

    private static void followOnGoesAtItsTick() {
        Check.says("each goes, at its tick");
        LightingDesk d = Desks.withLevels(100, 200, 0);
        d.times(0, 1, 10, 0);
        d.delays(0, 1, 0, 5);
        d.times(0, 2, 100, 0);
        d.delays(0, 2, 0, 50);
        d.times(0, 3, 0, 100);
        d.go(0, false, 0);
        // 50 at 5, on to 125 at 55, down to 63 at 105.
        Check.is(63, () -> d.out(0, 105));
        Check.is(55, () -> d.playback(0, 3));
        Check.is(105, () -> d.count(3));
        Check.is(0, () -> d.out(0, 155));
    }

    private static void followOnWithoutACueIsGone() {
        Check.says("if there is no such cue the follow-on is gone.");
        LightingDesk d = Desks.withLevels(10, 20);
        d.delays(0, 2, 0, 5);
        d.go(0, false, 0);
        d.go(0, false, 0);
        Check.is(20, () -> d.out(0, 4));
        Check.is(5, () -> d.playback(0, 4));
        Check.is(20, () -> d.out(0, 5));
        Check.is(NONE, () -> d.playback(0, 4));
        Check.is(2, () -> d.playback(0, 1));
        Check.is(0, () -> d.playback(0, 3));
        Check.is(2, () -> d.count(4));
        // For good: a cue that is made afterwards is not followed on to.
        d.record(0, 3, false);
        d.out(0, 50);
        Check.is(2, () -> d.playback(0, 1));
        // One that is made in time is, and one that is taken away is not.
        LightingDesk e = Desks.withLevels(10, 20);
        e.delays(0, 1, 0, 5);
        e.delays(0, 2, 0, 5);
        e.go(0, false, 0);
        e.delete(0, 2, false);
        e.record(0, 7, false);
        e.out(0, 5);
        Check.is(7, () -> e.playback(0, 1));
        Check.is(NONE, () -> e.playback(0, 4));
    }

    private static void followOnOfNoTimeByAGo() {
        Check.says("When a tick is told, all follow-ons that are at that tick or before it are done first");
        LightingDesk d = Desks.withLevels(10, 20, 30);
        d.delays(0, 1, 0, 0);
        Check.is(1, () -> d.go(0, false, 7));
        Check.is(7, () -> d.playback(0, 4));
        Check.is(10, () -> d.playback(0, 8));
        // Not by a call that is refused; by the next tick told, the same one or a later one.
        Check.fails(IllegalArgumentException.class, () -> d.out(64, 7));
        Check.fails(IllegalArgumentException.class, () -> d.out(0, 6));
        Check.fails(IllegalArgumentException.class, () -> d.go(0, false, 6));
        Check.is(1, () -> d.playback(0, 1));
        Check.is(3, () -> d.go(0, false, 7));
        LightingDesk later = Desks.withLevels(10, 20, 30);
        later.delays(0, 1, 0, 0);
        later.go(0, false, 7);
        Check.is(20, () -> later.out(0, 9));
        Check.is(7, () -> later.playback(0, 3));
    }

    private static void programmerWithALevel() {
        Check.says("the level of its value in the programmer, if it has one with a level");
        LightingDesk d = Desks.withLevels(200);
        d.go(0, false, 0);
        for (int kind = 0; kind < 2; kind++) {
            d.kind(0, kind == 1);
            for (int level : new int[] {0, 1, 255}) {
                d.set(0, level);
                Check.is(level, () -> d.out(0, 0));
                d.use(0, 15);
                d.palette(15, 0, level);
                Check.is(level, () -> d.out(0, 0));
            }
            d.release(0);
            Check.is(200, () -> d.out(0, 0));
        }
        // No master is laid on it, and the playback's own level stays what it is.
        d.set(0, 255);
        d.master(0, 0);
        Check.is(255, () -> d.out(0, 0));
        Check.is(200, () -> d.playback(0, 8));
    }

    private static void programmerWithoutALevel() {
        Check.says("if it has one with a level; else");
        LightingDesk d = Desks.withLevels(200);
        d.go(0, false, 0);
        d.use(0, 0);
        d.use(1, 0);
        for (int kind = 0; kind < 2; kind++) {
            d.kind(0, kind == 1);
            d.kind(1, kind == 1);
            Check.is(200, () -> d.out(0, 0));
            Check.is(0, () -> d.out(1, 0));
            d.palette(0, 0, 5);
            Check.is(5, () -> d.out(0, 0));
            d.palette(0, 0, NONE);
            Check.is(200, () -> d.out(0, 0));
        }
        Check.is(2, () -> d.count(2));
    }

    private static void greatestOfAllPlaybacks() {
        Check.says("of an INTENSITY the greatest of all playbacks' levels * MASTER / 255, rounded down");
        for (int greatest = 0; greatest < 6; greatest++) {
            LightingDesk d = new LightingDesk();
            Desks.addCues(d, 0, 0, 40);
            Desks.addCues(d, 1, 0, 90);
            for (int playback = 0; playback < 6; playback++) {
                d.assign(playback, playback == greatest ? 1 : 0);
            }
            for (int playback = 0; playback < 6; playback++) {
                d.go(playback, false, 0);
            }
            int p = greatest;
            Check.is(90, () -> d.out(0, 0));
            d.master(p, 0);
            Check.is(40, () -> d.out(0, 0));
            // 90 * 116 / 255 = 40.9, 90 * 117 / 255 = 41.3
            d.master(p, 116);
            Check.is(40, () -> d.out(0, 0));
            d.master(p, 117);
            Check.is(41, () -> d.out(0, 0));
        }
    }

    private static void masterRoundedDown() {
        Check.says("rounded down");
        LightingDesk d = Desks.withLevels(255, 254, 1, 0);
        d.go(0, false, 0);
        int[] masters = {0, 1, 128, 254, 255};
        int[][] due = {{0, 1, 128, 254, 255}, {0, 0, 127, 253, 254}, {0, 0, 0, 0, 1}, {0, 0, 0, 0, 0}};
        for (int row = 0; row < 4; row++) {
            for (int i = 0; i < masters.length; i++) {
                d.master(0, masters[i]);
                int level = due[row][i];
                Check.is(level, () -> d.out(0, 0));
            }
            if (row < 3) {
                d.go(0, false, 0);
            }
        }
    }

    /** Playbacks 0 .. 5 have list 0 .. 2, of levels 10, 20, 30 for channel 0, an attribute. */
    private static LightingDesk deskOfAttributes() {
        LightingDesk d = new LightingDesk();
        Desks.addCues(d, 0, 0, 10, 10, 10);
        Desks.addCues(d, 1, 0, 20, 20, 20);
        Desks.addCues(d, 2, 0, 30, 30, 30);
        d.kind(0, true);
        d.assign(0, 0);
        d.assign(3, 1);
        d.assign(5, 2);
        return d;
    }

    private static void attributeByTicks() {
        Check.says("of an ATTRIBUTE the level in the playback that last started (by ticks, of one tick the greatest number)");
        LightingDesk d = deskOfAttributes();
        d.go(5, false, 1);
        Check.is(30, () -> d.out(0, 1));
        d.go(3, false, 2);
        Check.is(20, () -> d.out(0, 2));
        d.go(0, false, 3);
        Check.is(10, () -> d.out(0, 3));
        Check.is(10, () -> d.out(0, LAST_TICK));
        // No master is laid on it.
        d.master(0, 0);
        Check.is(10, () -> d.out(0, LAST_TICK));
        d.go(3, false, LAST_TICK);
        Check.is(20, () -> d.out(0, LAST_TICK));
    }

    private static void attributeOfOneTick() {
        Check.says("of one tick the greatest number");
        // Whatever the order in which they were told, at tick 0 and later.
        int[][] orders = {{0, 3, 5}, {5, 3, 0}, {3, 5, 0}, {5, 0, 3}};
        for (int[] order : orders) {
            LightingDesk d = deskOfAttributes();
            for (int tick : new int[] {0, 8}) {
                for (int playback : order) {
                    d.go(playback, false, tick);
                }
                Check.is(30, () -> d.out(0, tick));
            }
            d.go(0, false, 9);
            Check.is(10, () -> d.out(0, 9));
            d.go(3, false, 9);
            Check.is(20, () -> d.out(0, 9));
        }
    }

    private static void attributeOfALookOfThen() {
        Check.says("a cue that had a look of the channel then");
        LightingDesk d = deskOfAttributes();
        d.use(0, 4);
        d.record(3, 1, false);
        d.record(3, 2, false);
        d.release(-1);
        d.assign(4, 3);
        d.go(0, false, 1);
        // A palette without a level is no look; that it gets one later does not count.
        d.go(4, false, 2);
        Check.is(10, () -> d.out(0, 2));
        d.palette(4, 0, 77);
        Check.is(10, () -> d.out(0, 3));
        d.go(4, false, 4);
        Check.is(77, () -> d.out(0, 4));
        // That it loses it later does not count either, nor that the cue goes.
        d.palette(4, 0, NONE);
        d.delete(3, 2, false);
        Check.is(77, () -> d.out(0, 5));
        // Its own later start without a look leaves it the one that last had one.
        d.go(4, true, 6);
        Check.is(77, () -> d.out(0, 6));
    }

    private static void attributeWithoutOne() {
        Check.says("0 without one.");
        LightingDesk d = deskOfAttributes();
        Check.is(0, () -> d.out(0, 0));
        Desks.addCues(d, 3, 1, 50);
        d.assign(1, 3);
        d.go(1, false, 0);
        Check.is(0, () -> d.out(0, 0));
        // A look of 0 is one: it hides the other playbacks' levels.
        d.go(5, false, 1);
        Check.is(30, () -> d.out(0, 1));
        Desks.only(d, 0, 0);
        d.record(3, 2, false);
        d.release(-1);
        d.go(1, false, 2);
        Check.is(0, () -> d.out(0, 2));
    }

    private static void theExceptionToldFirst() {
        Check.says("Of several exceptions the one told first is thrown.");
        LightingDesk d = Desks.busy();
        State.unchanged(d, () -> {
            // No list and no such tick; no such cue and no such channel.
            Check.fails(IllegalArgumentException.class, () -> d.go(5, false, 119));
            Check.fails(IllegalArgumentException.class, () -> d.go(5, false, LAST_TICK + 1));
            Check.fails(IllegalArgumentException.class, () -> d.go(1, true, 119));
            Check.fails(NoSuchElementException.class, () -> d.look(0, 11, 64));
            Check.fails(NoSuchElementException.class, () -> d.look(4, 10, -1));
            Check.fails(NoSuchElementException.class, () -> d.source(0, 11, 64));
            Check.fails(NoSuchElementException.class, () -> d.source(-1, 10, -1));
        });
        Check.fails(NoSuchElementException.class, () -> d.go(5, false, 120));
    }
}
