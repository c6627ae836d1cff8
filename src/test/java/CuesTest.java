import java.util.NoSuchElementException;

/** Promises 11 to 15 and 21: times, delays, look, source, cue, count. */
public final class CuesTest {
    private static final int[] OFF_TIMES = {-2, 10001, Integer.MIN_VALUE, Integer.MAX_VALUE};

    public static void main(String[] args) {
        timesTakesBothOrNeither();
        delaysTakesBothOrNeither();
        lookAndSourceTrack();
        lookAndSourceRefuse();
        cueTellsInOrder();
        cueRefuses();
        countCounts();
        Check.end();
    }

    private static LightingDesk deskWithCue() {
        LightingDesk d = new LightingDesk();
        d.record(1, 3, false);
        return d;
    }

    private static void timesTakesBothOrNeither() {
        LightingDesk d = deskWithCue();
        Check.yes(() -> d.times(1, 3, 10000, 0));
        Check.is(10000, () -> d.cue(1, 0, 2));
        Check.is(0, () -> d.cue(1, 0, 3));
        Check.yes(() -> d.times(1, 3, 0, 10000));
        Check.is(10000, () -> d.cue(1, 0, 3));
        Check.no(() -> d.times(1, 3, -1, 5));
        Check.no(() -> d.times(1, 3, 5, -1));
        for (int time : OFF_TIMES) {
            Check.no(() -> d.times(1, 3, time, 5));
            Check.no(() -> d.times(1, 3, 5, time));
        }
        Check.is(0, () -> d.cue(1, 0, 2));
        Check.is(10000, () -> d.cue(1, 0, 3));
        Check.no(() -> d.times(1, 2, 1, 1));
        Check.no(() -> d.times(0, 3, 1, 1));
        Check.no(() -> d.times(4, 3, 1, 1));
        Check.no(() -> d.times(-1, 3, 1, 1));
        Check.no(() -> d.times(-1, -1, 1, 1));
    }

    private static void delaysTakesBothOrNeither() {
        LightingDesk d = deskWithCue();
        Check.is(-1, () -> d.cue(1, 0, 5));
        Check.yes(() -> d.delays(1, 3, 10000, 0));
        Check.is(10000, () -> d.cue(1, 0, 4));
        Check.is(0, () -> d.cue(1, 0, 5));
        Check.yes(() -> d.delays(1, 3, 0, 10000));
        Check.is(10000, () -> d.cue(1, 0, 5));
        Check.no(() -> d.delays(1, 3, -1, 5));
        for (int time : OFF_TIMES) {
            Check.no(() -> d.delays(1, 3, time, 5));
            Check.no(() -> d.delays(1, 3, 5, time));
        }
        Check.is(0, () -> d.cue(1, 0, 4));
        Check.is(10000, () -> d.cue(1, 0, 5));
        Check.yes(() -> d.delays(1, 3, 7, -1));
        Check.is(7, () -> d.cue(1, 0, 4));
        Check.is(-1, () -> d.cue(1, 0, 5));
        Check.no(() -> d.delays(1, 4, 1, 1));
        Check.no(() -> d.delays(2, 3, 1, 1));
        Check.no(() -> d.delays(4, 3, 1, 1));
        Check.no(() -> d.delays(-1, 3, 1, 1));
    }

    private static void lookAndSourceTrack() {
        LightingDesk d = new LightingDesk();
        d.set(0, 10);
        d.set(63, 0);
        d.record(0, 10, false);
        d.release(-1);
        d.use(0, 2);
        d.record(0, 20, false);
        d.release(-1);
        d.record(0, 5, false);
        d.record(0, 30, false);
        Check.is(-1, () -> d.look(0, 5, 0));
        Check.is(-1, () -> d.source(0, 5, 0));
        Check.is(10, () -> d.look(0, 10, 0));
        Check.is(0, () -> d.look(0, 30, 63));
        Check.is(10, () -> d.source(0, 30, 63));
        // A palette without a level is still the source, and hides what is ahead of it.
        Check.is(-1, () -> d.look(0, 30, 0));
        Check.is(20, () -> d.source(0, 30, 0));
        d.palette(2, 0, 22);
        Check.is(22, () -> d.look(0, 30, 0));
        Check.is(-1, () -> d.source(0, 30, 1));
        Check.is(-1, () -> d.look(0, 30, 1));
    }

    private static void lookAndSourceRefuse() {
        LightingDesk d = deskWithCue();
        for (int channel : new int[] {-1, 64, Integer.MIN_VALUE, Integer.MAX_VALUE}) {
            Check.fails(IndexOutOfBoundsException.class, () -> d.look(1, 3, channel));
            Check.fails(IndexOutOfBoundsException.class, () -> d.source(1, 3, channel));
            // Of both the one told first.
            Check.fails(NoSuchElementException.class, () -> d.look(1, 4, channel));
            Check.fails(NoSuchElementException.class, () -> d.source(1, 4, channel));
        }
        for (int list : new int[] {-1, 0, 2, 4, Integer.MIN_VALUE, Integer.MAX_VALUE}) {
            Check.fails(NoSuchElementException.class, () -> d.look(list, 3, 0));
            Check.fails(NoSuchElementException.class, () -> d.source(list, 3, 0));
        }
        Check.fails(NoSuchElementException.class, () -> d.look(-1, -1, 0));
        Check.fails(NoSuchElementException.class, () -> d.source(-1, -1, 0));
    }

    private static void cueTellsInOrder() {
        LightingDesk d = new LightingDesk();
        d.set(4, 1);
        for (int number : new int[] {30, 10, 9999, 1, 20}) {
            d.record(2, number, false);
            d.set(number % 60, 1);
        }
        d.times(2, 20, 2, 3);
        d.delays(2, 20, 4, 5);
        Check.is(5, () -> d.cue(2, -1, 0));
        int[] numbers = {1, 10, 20, 30, 9999};
        for (int i = 0; i < numbers.length; i++) {
            int place = i;
            Check.is(numbers[place], () -> d.cue(2, place, 0));
        }
        Check.is(5, () -> d.cue(2, 2, 1));
        Check.is(2, () -> d.cue(2, 2, 2));
        Check.is(3, () -> d.cue(2, 2, 3));
        Check.is(4, () -> d.cue(2, 2, 4));
        Check.is(5, () -> d.cue(2, 2, 5));
        Check.is(0, () -> d.cue(2, 1, 2));
        Check.is(-1, () -> d.cue(2, 3, 5));
        Check.is(0, () -> d.cue(1, -1, 0));
        Check.is(0, () -> d.cue(3, -1, 0));
    }

    private static void cueRefuses() {
        LightingDesk d = deskWithCue();
        d.record(2, 4, false);
        for (int list : new int[] {-1, 4, Integer.MIN_VALUE, Integer.MAX_VALUE}) {
            Check.fails(IndexOutOfBoundsException.class, () -> d.cue(list, 0, 0));
            Check.fails(IndexOutOfBoundsException.class, () -> d.cue(list, -1, 0));
        }
        for (int i : new int[] {-2, 1, 40, Integer.MIN_VALUE, Integer.MAX_VALUE}) {
            Check.fails(IndexOutOfBoundsException.class, () -> d.cue(1, i, 0));
            Check.fails(IndexOutOfBoundsException.class, () -> d.cue(2, i, 0));
        }
        for (int what : new int[] {-1, 6, Integer.MIN_VALUE, Integer.MAX_VALUE}) {
            Check.fails(IndexOutOfBoundsException.class, () -> d.cue(1, 0, what));
            Check.fails(IndexOutOfBoundsException.class, () -> d.cue(1, -1, what));
        }
        Check.fails(IndexOutOfBoundsException.class, () -> d.cue(1, -1, 1));
        Check.fails(IndexOutOfBoundsException.class, () -> d.cue(0, 0, 0));
    }

    private static void countCounts() {
        LightingDesk d = new LightingDesk();
        d.set(0, 1);
        d.use(1, 1);
        d.record(0, 1, false);
        d.record(3, 7, false);
        d.release(0);
        d.assign(5, 3);
        d.go(5, false, 12);
        Check.is(2, () -> d.count(0));
        Check.is(4, () -> d.count(1));
        Check.is(1, () -> d.count(2));
        Check.is(12, () -> d.count(3));
        Check.is(1, () -> d.count(4));
        d.out(0, 15);
        Check.is(15, () -> d.count(3));
        for (int what : new int[] {-1, 5, 6, Integer.MIN_VALUE, Integer.MAX_VALUE}) {
            Check.is(-1, () -> d.count(what));
        }
    }
}
