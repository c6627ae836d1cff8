import java.util.NoSuchElementException;

/** Promises 1 to 6: a new object, kind, set, use, release, palette. */
public final class ProgrammerTest {
    public static void main(String[] args) {
        newObjectIsEmpty();
        objectsAreApart();
        kindChangesHowChannelsMerge();
        setHoldsALevel();
        useHoldsAPalette();
        releaseAnswersHowManyItLetGo();
        paletteIsAskedWhenItsLevelIs();
        Check.end();
    }

    private static void newObjectIsEmpty() {
        LightingDesk d = new LightingDesk();
        for (int what = 0; what <= 4; what++) {
            int w = what;
            Check.is(0, () -> d.count(w));
        }
        for (int list = 0; list < 4; list++) {
            int l = list;
            Check.is(0, () -> d.cue(l, -1, 0));
            Check.fails(IndexOutOfBoundsException.class, () -> d.cue(l, 0, 0));
        }
        for (int playback = 0; playback < 6; playback++) {
            int p = playback;
            Check.is(-1, () -> d.playback(p, 0));
            Check.is(0, () -> d.playback(p, 1));
            Check.is(255, () -> d.playback(p, 2));
            Check.is(-1, () -> d.playback(p, 3));
            Check.is(-1, () -> d.playback(p, 4));
            Check.is(0, () -> d.playback(p, 8));
            Check.is(0, () -> d.playback(p, 71));
        }
        for (int channel = 0; channel < 64; channel++) {
            int c = channel;
            Check.is(0, () -> d.out(c, 0));
        }
        Check.is(-1, () -> LightingDesk.NONE);
    }

    private static void objectsAreApart() {
        LightingDesk d = new LightingDesk();
        LightingDesk other = new LightingDesk();
        d.set(1, 2);
        d.palette(0, 1, 9);
        d.record(0, 1, false);
        d.out(0, 50);
        Check.is(0, () -> other.count(0));
        Check.is(0, () -> other.count(2));
        Check.is(0, () -> other.count(3));
        other.use(1, 0);
        Check.is(0, () -> other.out(1, 0));
    }

    /** Two playbacks with channels 0 and 63: 200 of the earlier start, 90 of the later. */
    private static LightingDesk deskWithTwoPlaybacks() {
        LightingDesk d = new LightingDesk();
        d.set(0, 200);
        d.set(63, 200);
        d.record(0, 1, false);
        d.set(0, 90);
        d.set(63, 90);
        d.record(1, 1, false);
        d.release(-1);
        d.assign(0, 0);
        d.assign(1, 1);
        d.go(0, false, 1);
        d.go(1, false, 2);
        return d;
    }

    private static void kindChangesHowChannelsMerge() {
        LightingDesk d = deskWithTwoPlaybacks();
        Check.is(200, () -> d.out(0, 2));
        Check.yes(() -> d.kind(0, true));
        Check.yes(() -> d.kind(63, true));
        Check.is(90, () -> d.out(0, 2));
        Check.is(90, () -> d.out(63, 2));
        Check.yes(() -> d.kind(0, false));
        Check.is(200, () -> d.out(0, 2));
        Check.yes(() -> d.kind(63, true));
        Check.is(90, () -> d.out(63, 2));
        Check.no(() -> d.kind(-1, true));
        Check.no(() -> d.kind(64, true));
        Check.no(() -> d.kind(Integer.MIN_VALUE, true));
        Check.no(() -> d.kind(Integer.MAX_VALUE, false));
    }

    private static void setHoldsALevel() {
        LightingDesk d = new LightingDesk();
        Check.yes(() -> d.set(0, 0));
        Check.yes(() -> d.set(63, 255));
        Check.is(2, () -> d.count(2));
        Check.is(0, () -> d.out(0, 0));
        Check.is(255, () -> d.out(63, 0));
        Check.yes(() -> d.set(63, 12));
        Check.is(2, () -> d.count(2));
        Check.is(12, () -> d.out(63, 0));
        Check.no(() -> d.set(64, 1));
        Check.no(() -> d.set(-1, 1));
        Check.no(() -> d.set(63, 256));
        Check.no(() -> d.set(63, -1));
        Check.no(() -> d.set(Integer.MAX_VALUE, Integer.MIN_VALUE));
        Check.is(2, () -> d.count(2));
        Check.is(12, () -> d.out(63, 0));
    }

    private static void useHoldsAPalette() {
        LightingDesk d = new LightingDesk();
        Check.yes(() -> d.use(5, 0));
        Check.yes(() -> d.use(6, 15));
        Check.is(2, () -> d.count(2));
        d.palette(0, 5, 31);
        d.palette(15, 6, 32);
        Check.is(31, () -> d.out(5, 0));
        Check.is(32, () -> d.out(6, 0));
        Check.yes(() -> d.use(5, 15));
        Check.is(2, () -> d.count(2));
        Check.is(0, () -> d.out(5, 0));
        Check.no(() -> d.use(5, 16));
        Check.no(() -> d.use(5, -1));
        Check.no(() -> d.use(64, 0));
        Check.no(() -> d.use(-1, 0));
        Check.no(() -> d.use(7, Integer.MAX_VALUE));
        Check.is(2, () -> d.count(2));
        Check.is(32, () -> d.out(6, 0));
        d.set(6, 4);
        Check.is(4, () -> d.out(6, 0));
    }

    private static void releaseAnswersHowManyItLetGo() {
        LightingDesk d = new LightingDesk();
        d.set(0, 1);
        d.use(1, 2);
        d.set(63, 3);
        Check.is(0, () -> d.release(2));
        Check.is(0, () -> d.release(64));
        Check.is(0, () -> d.release(-2));
        Check.is(0, () -> d.release(Integer.MIN_VALUE));
        Check.is(0, () -> d.release(Integer.MAX_VALUE));
        Check.is(3, () -> d.count(2));
        Check.is(1, () -> d.release(1));
        Check.is(0, () -> d.release(1));
        Check.is(2, () -> d.count(2));
        Check.is(2, () -> d.release(LightingDesk.NONE));
        Check.is(0, () -> d.release(LightingDesk.NONE));
        Check.is(0, () -> d.count(2));
        Check.is(0, () -> d.out(63, 0));
    }

    private static void paletteIsAskedWhenItsLevelIs() {
        LightingDesk d = new LightingDesk();
        d.use(3, 7);
        d.use(4, 7);
        d.record(2, 8, false);
        d.release(-1);
        Check.is(-1, () -> d.look(2, 8, 3));
        Check.yes(() -> d.palette(7, 3, 255));
        Check.is(255, () -> d.look(2, 8, 3));
        Check.is(-1, () -> d.look(2, 8, 4));
        Check.yes(() -> d.palette(7, 3, 0));
        Check.is(0, () -> d.look(2, 8, 3));
        Check.yes(() -> d.palette(8, 3, 50));
        Check.is(0, () -> d.look(2, 8, 3));
        Check.no(() -> d.palette(7, 3, 256));
        Check.no(() -> d.palette(7, 3, -2));
        Check.no(() -> d.palette(7, 64, 1));
        Check.no(() -> d.palette(7, -1, 1));
        Check.no(() -> d.palette(16, 3, 1));
        Check.no(() -> d.palette(-1, 3, 1));
        Check.no(() -> d.palette(-1, 3, -1));
        Check.is(0, () -> d.look(2, 8, 3));
        Check.yes(() -> d.palette(7, 3, -1));
        Check.is(-1, () -> d.look(2, 8, 3));
        Check.yes(() -> d.palette(7, 3, -1));
        Check.yes(() -> d.palette(0, 0, 1));
        Check.yes(() -> d.palette(15, 63, 1));
        Check.fails(NoSuchElementException.class, () -> d.look(2, 7, 3));
    }
}
