/** The limits of promises 7 to 10: forty cues and six hundred moves, refused beyond them. */
public final class LimitsTest {
    public static void main(String[] args) {
        fortyCues();
        recordUpToSixHundredMoves();
        recordCueOnlyCountsKeptMoves();
        updateCountsNewMoves();
        blockCountsNewMoves();
        oneMoveTooMany();
        deleteIsNeverRefused();
        Check.end();
    }

    private static void hold(LightingDesk d, int channels, int level) {
        d.release(-1);
        for (int c = 0; c < channels; c++) {
            d.set(c, level);
        }
    }

    /** Nine cues of list 0 with 64 moves each: 576 moves, numbers 10, 20 .. 90. */
    private static LightingDesk fullDesk() {
        LightingDesk d = new LightingDesk();
        hold(d, 64, 1);
        for (int n = 10; n <= 90; n += 10) {
            d.record(0, n, false);
        }
        Check.is(576, () -> d.count(1));
        return d;
    }

    private static void fortyCues() {
        LightingDesk d = new LightingDesk();
        for (int n = 1; n <= 40; n++) {
            int number = n;
            Check.is(0, () -> d.record(number % 4, number, false));
        }
        Check.is(40, () -> d.count(0));
        for (int list = 0; list < 4; list++) {
            int l = list;
            Check.is(10, () -> d.cue(l, -1, 0));
            Check.fails(IllegalStateException.class, () -> d.record(l, 50, false));
        }
        Check.fails(IllegalArgumentException.class, () -> d.record(4, 50, false));
        Check.fails(IllegalArgumentException.class, () -> d.record(0, 0, false));
        Check.is(40, () -> d.count(0));
        d.set(0, 5);
        Check.is(1, () -> d.record(0, 40, false));
        Check.is(0, () -> d.delete(3, 3, false));
        Check.is(1, () -> d.record(2, 9999, true));
        Check.fails(IllegalStateException.class, () -> d.record(3, 3, false));
        Check.is(9, () -> d.cue(3, -1, 0));
        Check.is(2, () -> d.count(1));
    }

    private static void recordUpToSixHundredMoves() {
        LightingDesk d = fullDesk();
        hold(d, 25, 2);
        Check.fails(IllegalStateException.class, () -> d.record(1, 1, false));
        Check.is(9, () -> d.count(0));
        Check.is(576, () -> d.count(1));
        Check.is(25, () -> d.count(2));
        d.release(0);
        Check.is(24, () -> d.record(1, 1, false));
        Check.is(600, () -> d.count(1));
        Check.is(24, () -> d.record(1, 1, false));
        Check.is(64, () -> d.record(0, 90, false));
        Check.is(600, () -> d.count(1));
        Check.fails(IllegalStateException.class, () -> d.record(1, 2, false));
        d.set(0, 9);
        Check.fails(IllegalStateException.class, () -> d.record(1, 1, false));
        Check.is(-1, () -> d.look(1, 1, 0));
        d.release(-1);
        Check.is(0, () -> d.record(1, 2, false));
        Check.is(11, () -> d.count(0));
    }

    private static void recordCueOnlyCountsKeptMoves() {
        LightingDesk d = fullDesk();
        d.release(-1);
        d.record(1, 10, false);
        hold(d, 13, 3);
        Check.fails(IllegalStateException.class, () -> d.record(1, 5, true));
        Check.is(1, () -> d.cue(1, -1, 0));
        Check.is(576, () -> d.count(1));
        Check.is(13, () -> d.record(1, 5, false));
        Check.is(13, () -> d.delete(1, 5, false));
        d.release(12);
        Check.is(12, () -> d.record(1, 5, true));
        Check.is(600, () -> d.count(1));
        Check.is(12, () -> d.cue(1, 1, 1));
        Check.is(12, () -> d.record(1, 5, true));
    }

    private static void updateCountsNewMoves() {
        LightingDesk d = fullDesk();
        d.release(-1);
        d.record(1, 10, false);
        d.record(1, 20, false);
        hold(d, 25, 4);
        Check.fails(IllegalStateException.class, () -> d.update(1, 20));
        Check.is(0, () -> d.cue(1, 1, 1));
        d.release(0);
        Check.is(1, () -> d.update(1, 20));
        Check.is(600, () -> d.count(1));
        Check.is(1, () -> d.update(1, 20));
        Check.is(1, () -> d.update(0, 50));
        Check.is(4, () -> d.look(0, 50, 24));
        Check.fails(IllegalStateException.class, () -> d.update(1, 10));
        Check.is(-1, () -> d.look(1, 10, 1));
    }

    private static void blockCountsNewMoves() {
        LightingDesk d = fullDesk();
        d.release(-1);
        d.record(1, 20, false);
        d.record(1, 30, false);
        hold(d, 13, 5);
        d.record(1, 10, false);
        Check.fails(IllegalStateException.class, () -> d.block(1, 20, true));
        Check.is(0, () -> d.cue(1, 1, 1));
        Check.is(589, () -> d.count(1));
        Check.is(13, () -> d.delete(1, 10, false));
        d.release(12);
        d.record(1, 10, false);
        Check.is(12, () -> d.block(1, 20, true));
        Check.is(600, () -> d.count(1));
        Check.is(12, () -> d.block(1, 20, true));
        Check.fails(IllegalStateException.class, () -> d.block(1, 30, true));
        Check.is(0, () -> d.block(1, 20, false));
        Check.is(12, () -> d.block(1, 30, true));
    }

    /** Edits that would come to 601 moves, by one that the programmer does not have. */
    private static void oneMoveTooMany() {
        LightingDesk d = fullDesk();
        d.release(-1);
        d.set(30, 9);
        d.record(1, 20, false);
        hold(d, 12, 7);
        Check.fails(IllegalStateException.class, () -> d.record(1, 10, true));
        Check.is(1, () -> d.cue(1, -1, 0));
        Check.is(12, () -> d.record(1, 10, false));
        Check.fails(IllegalStateException.class, () -> d.record(1, 10, true));
        Check.fails(IllegalStateException.class, () -> d.block(1, 20, true));
        Check.is(589, () -> d.count(1));
        Check.is(1, () -> d.delete(1, 20, false));
        d.release(-1);
        d.record(1, 20, false);
        Check.is(12, () -> d.block(1, 20, true));
        Check.is(600, () -> d.count(1));
    }

    private static void deleteIsNeverRefused() {
        LightingDesk d = fullDesk();
        hold(d, 24, 6);
        d.record(1, 1, false);
        d.release(-1);
        d.record(1, 2, false);
        Check.is(24, () -> d.delete(1, 1, true));
        Check.is(600, () -> d.count(1));
        Check.is(64, () -> d.delete(0, 10, true));
        Check.is(536, () -> d.count(1));
    }
}
