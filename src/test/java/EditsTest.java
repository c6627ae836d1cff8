import java.util.NoSuchElementException;

/** Promises 7 to 10: record, update, delete, block. */
public final class EditsTest {
    private static final int[] OFF_LISTS = {-1, 4, Integer.MIN_VALUE, Integer.MAX_VALUE};

    public static void main(String[] args) {
        recordMakesAndMerges();
        recordLetsLaterLooksGo();
        recordCueOnlyKeepsTheNextCue();
        recordCueOnlyKeepsWhatWasTrackedBefore();
        recordRefusesWrongNumbers();
        updateGoesToTheSources();
        updateWithoutASource();
        deleteLetsLooksGo();
        deleteKeepsLooks();
        blockWritesWhatIsTracked();
        unblockTakesAwayTheVerySame();
        listsDoNotMix();
        wrongCuesAreRefused();
        Check.end();
    }

    private static void only(LightingDesk d, int channel, int level) {
        d.release(-1);
        d.set(channel, level);
    }

    private static void recordMakesAndMerges() {
        LightingDesk d = new LightingDesk();
        Check.is(0, () -> d.record(0, 1, false));
        d.set(1, 10);
        d.set(2, 20);
        Check.is(2, () -> d.record(0, 9999, false));
        only(d, 2, 25);
        Check.is(2, () -> d.record(0, 9999, false));
        d.use(3, 4);
        Check.is(3, () -> d.record(0, 9999, false));
        Check.is(10, () -> d.look(0, 9999, 1));
        Check.is(25, () -> d.look(0, 9999, 2));
        Check.is(2, () -> d.count(0));
        Check.is(3, () -> d.count(1));
        Check.is(2, () -> d.count(2));
        Check.is(-1, () -> d.look(0, 1, 1));
    }

    private static void recordLetsLaterLooksGo() {
        LightingDesk d = new LightingDesk();
        d.set(0, 10);
        d.record(1, 10, false);
        d.release(-1);
        d.record(1, 30, false);
        only(d, 0, 77);
        Check.is(1, () -> d.record(1, 20, false));
        Check.is(77, () -> d.look(1, 30, 0));
        Check.is(20, () -> d.source(1, 30, 0));
        Check.is(2, () -> d.count(1));
    }

    private static void recordCueOnlyKeepsTheNextCue() {
        LightingDesk d = new LightingDesk();
        d.set(0, 10);
        d.record(1, 10, false);
        d.release(-1);
        d.record(1, 30, false);
        d.record(1, 40, false);
        d.set(0, 77);
        d.set(5, 55);
        Check.is(2, () -> d.record(1, 20, true));
        Check.is(77, () -> d.look(1, 20, 0));
        Check.is(10, () -> d.look(1, 30, 0));
        Check.is(30, () -> d.source(1, 40, 0));
        Check.is(-1, () -> d.look(1, 40, 5));
        Check.is(30, () -> d.source(1, 40, 5));
        Check.is(5, () -> d.count(1));
        // The kept one is UNSET, not nothing: a later palette or level can not shine through it.
        only(d, 5, 3);
        d.record(1, 10, false);
        Check.is(-1, () -> d.look(1, 40, 5));
        // The last cue has no next one.
        Check.is(1, () -> d.record(1, 40, true));
        Check.is(1, () -> d.record(1, 50, true));
        Check.is(5, () -> d.count(0));
    }

    private static void recordCueOnlyKeepsWhatWasTrackedBefore() {
        LightingDesk d = new LightingDesk();
        d.set(0, 10);
        d.use(1, 6);
        d.record(3, 1, false);
        d.release(-1);
        d.record(3, 2, false);
        d.palette(6, 1, 60);
        d.set(0, 11);
        d.set(1, 12);
        Check.is(2, () -> d.record(3, 1, true));
        Check.is(10, () -> d.look(3, 2, 0));
        Check.is(60, () -> d.look(3, 2, 1));
        // The palette is kept as a palette, not as its level of then.
        d.palette(6, 1, 61);
        Check.is(61, () -> d.look(3, 2, 1));
        // A move that the next cue has stays what it is.
        d.set(0, 13);
        Check.is(2, () -> d.record(3, 1, true));
        Check.is(10, () -> d.look(3, 2, 0));
        Check.is(4, () -> d.count(1));
    }

    private static void recordRefusesWrongNumbers() {
        LightingDesk d = new LightingDesk();
        for (int list : OFF_LISTS) {
            Check.fails(IllegalArgumentException.class, () -> d.record(list, 1, false));
        }
        for (int number : new int[] {0, -1, 10000, Integer.MIN_VALUE, Integer.MAX_VALUE}) {
            Check.fails(IllegalArgumentException.class, () -> d.record(0, number, true));
        }
        Check.is(0, () -> d.count(0));
        Check.is(0, () -> d.record(3, 1, false));
        Check.is(0, () -> d.record(0, 9999, false));
    }

    private static void updateGoesToTheSources() {
        LightingDesk d = new LightingDesk();
        d.set(0, 10);
        d.set(1, 11);
        d.record(0, 1, false);
        only(d, 1, 21);
        d.record(0, 2, false);
        d.release(-1);
        d.record(0, 3, false);
        Check.is(0, () -> d.update(0, 3));
        d.set(0, 30);
        d.set(1, 31);
        d.set(2, 32);
        Check.is(3, () -> d.update(0, 3));
        Check.is(30, () -> d.look(0, 1, 0));
        Check.is(11, () -> d.look(0, 1, 1));
        Check.is(31, () -> d.look(0, 2, 1));
        Check.is(3, () -> d.source(0, 3, 2));
        Check.is(-1, () -> d.source(0, 2, 2));
        // To the same value, too.
        Check.is(3, () -> d.update(0, 3));
        only(d, 0, 40);
        d.set(1, 41);
        Check.is(1, () -> d.update(0, 1));
        Check.is(41, () -> d.look(0, 1, 1));
        Check.is(31, () -> d.look(0, 2, 1));
        Check.is(4, () -> d.count(1));
    }

    private static void updateWithoutASource() {
        LightingDesk d = new LightingDesk();
        d.set(9, 90);
        d.record(0, 5, false);
        d.release(-1);
        d.record(0, 4, false);
        d.use(9, 2);
        Check.is(1, () -> d.update(0, 4));
        d.palette(2, 9, 29);
        Check.is(29, () -> d.look(0, 4, 9));
        Check.is(90, () -> d.look(0, 5, 9));
        Check.is(1, () -> d.cue(0, 0, 1));
    }

    /** Cues 1 and 3 of list 2 without moves about 2 with one of channel 0 and one of 1. */
    private static LightingDesk deskToDeleteFrom() {
        LightingDesk d = new LightingDesk();
        d.set(0, 10);
        d.record(2, 1, false);
        d.set(0, 20);
        d.set(1, 21);
        d.record(2, 2, false);
        only(d, 1, 31);
        d.record(2, 3, false);
        d.release(-1);
        d.record(2, 4, false);
        return d;
    }

    private static void deleteLetsLooksGo() {
        LightingDesk d = deskToDeleteFrom();
        Check.is(2, () -> d.delete(2, 2, false));
        Check.is(10, () -> d.look(2, 3, 0));
        Check.is(1, () -> d.source(2, 4, 0));
        Check.is(3, () -> d.count(0));
        Check.is(2, () -> d.count(1));
        Check.fails(NoSuchElementException.class, () -> d.delete(2, 2, false));
        // A cue that is made anew has nothing of the old one.
        d.times(2, 3, 5, 6);
        d.delays(2, 3, 7, 8);
        Check.is(1, () -> d.delete(2, 3, false));
        Check.is(0, () -> d.record(2, 3, false));
        Check.is(3, () -> d.cue(2, 1, 0));
        Check.is(0, () -> d.cue(2, 1, 1));
        Check.is(0, () -> d.cue(2, 1, 2));
        Check.is(0, () -> d.cue(2, 1, 3));
        Check.is(0, () -> d.cue(2, 1, 4));
        Check.is(-1, () -> d.cue(2, 1, 5));
    }

    private static void deleteKeepsLooks() {
        LightingDesk d = deskToDeleteFrom();
        Check.is(2, () -> d.delete(2, 2, true));
        Check.is(20, () -> d.look(2, 3, 0));
        Check.is(3, () -> d.source(2, 4, 0));
        Check.is(31, () -> d.look(2, 3, 1));
        Check.is(3, () -> d.count(1));
        // Channels of which the cue had no move are not kept as moves.
        Check.is(0, () -> d.delete(2, 4, true));
        Check.is(2, () -> d.delete(2, 3, true));
        Check.is(1, () -> d.count(0));
        Check.is(1, () -> d.count(1));
        // An UNSET move is kept, too.
        d.record(2, 8, false);
        d.record(2, 9, false);
        d.set(7, 70);
        d.record(2, 6, true);
        Check.is(8, () -> d.source(2, 9, 7));
        Check.is(1, () -> d.delete(2, 8, true));
        Check.is(9, () -> d.source(2, 9, 7));
        Check.is(-1, () -> d.look(2, 9, 7));
    }

    private static void blockWritesWhatIsTracked() {
        LightingDesk d = new LightingDesk();
        d.record(0, 5, false);
        d.set(0, 10);
        d.use(1, 3);
        d.record(0, 1, false);
        only(d, 2, 12);
        d.record(0, 4, true);
        Check.is(3, () -> d.block(0, 4, true));
        Check.is(3, () -> d.block(0, 4, true));
        Check.is(3, () -> d.block(0, 5, true));
        Check.is(5, () -> d.source(0, 5, 0));
        Check.is(5, () -> d.source(0, 5, 2));
        Check.is(-1, () -> d.look(0, 5, 2));
        Check.is(-1, () -> d.look(0, 5, 1));
        d.palette(3, 1, 33);
        Check.is(33, () -> d.look(0, 5, 1));
        Check.is(8, () -> d.count(1));
        Check.is(2, () -> d.block(0, 1, true));
        Check.is(8, () -> d.count(1));
    }

    private static void unblockTakesAwayTheVerySame() {
        LightingDesk d = new LightingDesk();
        d.palette(3, 1, 33);
        d.set(0, 10);
        d.use(1, 3);
        d.record(0, 1, false);
        // A level is not the palette of that level, and a palette not another one.
        d.set(1, 33);
        d.record(0, 2, false);
        Check.is(1, () -> d.block(0, 2, false));
        Check.is(1, () -> d.source(0, 2, 0));
        Check.is(2, () -> d.source(0, 2, 1));
        d.palette(4, 1, 33);
        d.use(1, 4);
        d.record(0, 2, false);
        Check.is(2, () -> d.cue(0, 1, 1));
        Check.is(1, () -> d.block(0, 2, false));
        d.use(1, 3);
        d.record(0, 2, false);
        Check.is(0, () -> d.block(0, 2, false));
        Check.is(0, () -> d.block(0, 2, false));
        unblockOfUnset();
    }

    private static void unblockOfUnset() {
        LightingDesk d = new LightingDesk();
        d.record(0, 2, false);
        d.record(0, 3, false);
        d.set(5, 50);
        d.set(6, 60);
        d.record(0, 1, true);
        Check.is(2, () -> d.cue(0, 1, 1));
        Check.is(2, () -> d.block(0, 3, true));
        // UNSET behind UNSET is the very same, UNSET behind a level is not.
        Check.is(0, () -> d.block(0, 3, false));
        Check.is(2, () -> d.block(0, 2, false));
        // With no cue ahead at all UNSET goes and levels stay.
        only(d, 7, 70);
        d.record(0, 2, false);
        Check.is(2, () -> d.delete(0, 1, false));
        Check.is(1, () -> d.block(0, 2, false));
        Check.is(70, () -> d.look(0, 2, 7));
        Check.is(-1, () -> d.source(0, 2, 5));
        unblockWithoutASourceAhead();
    }

    private static void unblockWithoutASourceAhead() {
        LightingDesk d = new LightingDesk();
        d.set(7, 70);
        d.record(0, 2, false);
        only(d, 8, 80);
        d.record(0, 1, true);
        Check.is(2, () -> d.cue(0, 1, 1));
        d.delete(0, 1, false);
        d.release(-1);
        d.record(0, 1, false);
        Check.is(2, () -> d.source(0, 2, 8));
        Check.is(1, () -> d.block(0, 2, false));
        Check.is(-1, () -> d.source(0, 2, 8));
        Check.is(70, () -> d.look(0, 2, 7));
    }

    private static void listsDoNotMix() {
        LightingDesk d = new LightingDesk();
        d.set(0, 10);
        d.record(1, 5, false);
        d.release(-1);
        d.record(2, 1, false);
        d.record(2, 5, false);
        d.record(0, 9, false);
        Check.is(-1, () -> d.look(2, 5, 0));
        Check.is(-1, () -> d.source(2, 1, 0));
        Check.is(0, () -> d.block(2, 1, true));
        only(d, 0, 99);
        // The last cue of a list has no next one in the list behind.
        Check.is(1, () -> d.record(0, 9, true));
        Check.is(10, () -> d.look(1, 5, 0));
        Check.is(1, () -> d.record(1, 7, true));
        Check.is(-1, () -> d.source(2, 1, 0));
        Check.is(1, () -> d.delete(1, 7, true));
        Check.is(-1, () -> d.source(2, 1, 0));
        // The cue ahead is one of the list, too.
        only(d, 0, 10);
        Check.is(1, () -> d.record(2, 1, false));
        Check.is(1, () -> d.block(2, 1, false));
        Check.is(4, () -> d.count(0));
    }

    private static void wrongCuesAreRefused() {
        LightingDesk d = new LightingDesk();
        d.set(0, 1);
        d.record(0, 5, false);
        for (int list : OFF_LISTS) {
            Check.fails(NoSuchElementException.class, () -> d.update(list, 5));
            Check.fails(NoSuchElementException.class, () -> d.delete(list, 5, true));
            Check.fails(NoSuchElementException.class, () -> d.block(list, 5, true));
        }
        for (int number : new int[] {4, 6, 0, -1, 10000, Integer.MIN_VALUE, Integer.MAX_VALUE}) {
            Check.fails(NoSuchElementException.class, () -> d.update(0, number));
            Check.fails(NoSuchElementException.class, () -> d.delete(0, number, false));
            Check.fails(NoSuchElementException.class, () -> d.block(0, number, false));
        }
        Check.fails(NoSuchElementException.class, () -> d.update(1, 5));
        Check.is(1, () -> d.count(0));
        Check.is(1, () -> d.count(1));
    }
}
