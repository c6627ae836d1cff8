import java.util.Random;
import java.util.function.IntSupplier;

/** Runs of drawn calls, the same every time, on the class and on the plain desk beside it. */
public final class ModelTest {
    private static final int RUNS = 1500;
    // The document promises a desk for so many calls, so that none is asked more.
    private static final int CALLS = 512;
    // The last calls of a run only ask, so that what the run came to is seen.
    private static final int LAST_QUESTIONS = 160;

    private final Random random;
    private final LightingDesk desk = new LightingDesk();
    private final PlainDesk plain = new PlainDesk();
    private final StringBuilder calls = new StringBuilder();
    private final int channels;
    private final int lists;
    private final int numbers;
    private final int stride;
    private int made = 0;
    private int tick = 0;

    private ModelTest(long seed) {
        random = new Random(seed);
        int[] spans = {3, 8, 64};
        channels = spans[random.nextInt(spans.length)];
        lists = 1 + random.nextInt(4);
        numbers = 4 + random.nextInt(40);
        stride = random.nextInt(4) == 0 ? 3000 : 12;
    }

    public static void main(String[] args) {
        for (int seed = 0; seed < RUNS; seed++) {
            ModelTest run = new ModelTest(seed);
            if (!run.isAlike(seed % 3 == 0)) {
                System.out.println("run " + seed + ":" + run.calls);
            }
        }
        Check.end();
    }

    /** Goes on to the first answer that differs, or to the last call. */
    private boolean isAlike(boolean filled) {
        boolean alike = true;
        for (int i = 0; filled && alike && i < channels; i++) {
            int c = i;
            alike = both("set " + c + " 7", () -> bit(desk.set(c, 7)), () -> bit(plain.set(c, 7)));
        }
        while (alike && made < CALLS) {
            boolean asks = made >= CALLS - LAST_QUESTIONS || random.nextInt(4) == 0;
            alike = asks ? ask() : change();
        }
        return alike;
    }

    private boolean change() {
        int c = channel();
        int l = draw(lists, 4);
        int n = number();
        int p = draw(3, 6);
        boolean flag = random.nextBoolean();
        switch (random.nextInt(25)) {
            case 0: return both("kind " + c + " " + flag,
                    () -> bit(desk.kind(c, flag)), () -> bit(plain.kind(c, flag)));
            case 1: case 2: case 3: {
                int v = draw(256, 256);
                return both("set " + c + " " + v, () -> bit(desk.set(c, v)), () -> bit(plain.set(c, v)));
            }
            case 4: {
                int v = draw(3, 16);
                return both("use " + c + " " + v, () -> bit(desk.use(c, v)), () -> bit(plain.use(c, v)));
            }
            case 5: {
                int r = random.nextInt(6) == 0 ? -1 : c;
                return both("release " + r, () -> desk.release(r), () -> plain.release(r));
            }
            case 6: {
                int q = draw(3, 16);
                int v = random.nextInt(5) == 0 ? -1 : draw(256, 256);
                return both("palette " + q + " " + c + " " + v,
                        () -> bit(desk.palette(q, c, v)), () -> bit(plain.palette(q, c, v)));
            }
            case 7: case 8: case 9: case 10: return both("record " + l + " " + n + " " + flag,
                    () -> desk.record(l, n, flag), () -> plain.record(l, n, flag));
            case 11: return both("update " + l + " " + n,
                    () -> desk.update(l, n), () -> plain.update(l, n));
            case 12: return both("delete " + l + " " + n + " " + flag,
                    () -> desk.delete(l, n, flag), () -> plain.delete(l, n, flag));
            case 13: return both("block " + l + " " + n + " " + flag,
                    () -> desk.block(l, n, flag), () -> plain.block(l, n, flag));
            case 14: case 15: {
                int up = time();
                int down = time();
                return both("times " + l + " " + n + " " + up + " " + down,
                        () -> bit(desk.times(l, n, up, down)), () -> bit(plain.times(l, n, up, down)));
            }
            case 16: case 17: {
                int delay = time();
                int follow = random.nextInt(3) == 0 ? -1 : time();
                return both("delays " + l + " " + n + " " + delay + " " + follow,
                        () -> bit(desk.delays(l, n, delay, follow)), () -> bit(plain.delays(l, n, delay, follow)));
            }
            case 18: return both("assign " + p + " " + l,
                    () -> bit(desk.assign(p, l)), () -> bit(plain.assign(p, l)));
            case 19: case 20: case 21: {
                int t = tick();
                boolean back = random.nextInt(4) == 0;
                return both("go " + p + " " + back + " " + t,
                        () -> desk.go(p, back, t), () -> plain.go(p, back, t));
            }
            case 22: {
                int v = draw(256, 256);
                return both("master " + p + " " + v,
                        () -> bit(desk.master(p, v)), () -> bit(plain.master(p, v)));
            }
            default: {
                int t = tick();
                return both("out " + c + " " + t, () -> desk.out(c, t), () -> plain.out(c, t));
            }
        }
    }

    private boolean ask() {
        int c = channel();
        int l = draw(lists, 4);
        int length = l < 0 || l > 3 ? 0 : plain.cue(l, -1, 0);
        int i = random.nextInt(length + 1);
        int n = i < length ? plain.cue(l, i, 0) : 1 + random.nextInt(numbers);
        int p = draw(3, 6);
        switch (random.nextInt(8)) {
            case 0: {
                int what = draw(5, 5);
                return both("count " + what, () -> desk.count(what), () -> plain.count(what));
            }
            case 1: return both("cue " + l + " -1 0", () -> desk.cue(l, -1, 0), () -> plain.cue(l, -1, 0));
            case 2: {
                int at = random.nextInt(9) == 0 ? -1 : i;
                int what = draw(6, 6);
                return both("cue " + l + " " + at + " " + what,
                        () -> desk.cue(l, at, what), () -> plain.cue(l, at, what));
            }
            case 3: return both("look " + l + " " + n + " " + c,
                    () -> desk.look(l, n, c), () -> plain.look(l, n, c));
            case 4: return both("source " + l + " " + n + " " + c,
                    () -> desk.source(l, n, c), () -> plain.source(l, n, c));
            default: {
                int what = random.nextBoolean() ? 8 + random.nextInt(channels) : draw(8, 72);
                return both("playback " + p + " " + what,
                        () -> desk.playback(p, what), () -> plain.playback(p, what));
            }
        }
    }

    private static int bit(boolean answer) {
        return answer ? 1 : 0;
    }

    /** Mostly 0 .. common - 1, at times a number round the edges of 0 .. all - 1 or far off. */
    private int draw(int common, int all) {
        int[] odd = {-2, -1, 0, all - 1, all, Integer.MIN_VALUE, Integer.MAX_VALUE};
        return random.nextInt(40) == 0 ? odd[random.nextInt(odd.length)] : random.nextInt(common);
    }

    private int channel() {
        return draw(channels, 64);
    }

    private int number() {
        int[] odd = {-1, 0, 9998, 9999, 10000, Integer.MIN_VALUE, Integer.MAX_VALUE};
        return random.nextInt(40) == 0 ? odd[random.nextInt(odd.length)] : 1 + random.nextInt(numbers);
    }

    private int time() {
        return random.nextInt(8) == 0 ? draw(10001, 10001) : random.nextInt(stride);
    }

    private int tick() {
        if (random.nextInt(40) == 0) {
            return draw(1, 1000000001);
        }
        tick = Math.max(tick, plain.count(3)) + random.nextInt(stride);
        return tick;
    }

    private boolean both(String text, IntSupplier mine, IntSupplier due) {
        made++;
        String got = Check.answer(mine);
        String want = Check.answer(due);
        calls.append("\n  ").append(text).append(" = ").append(got);
        if (!want.equals(got)) {
            calls.append(", due is ").append(want);
        }
        Check.same(want, got);
        return want.equals(got);
    }
}
