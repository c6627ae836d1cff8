import java.util.Random;
import java.util.function.IntSupplier;

/** Long runs of drawn calls, the same every time, on the class and on the plain desk beside it. */
public final class ModelTest {
    private static final int RUNS = 250;
    private static final int CALLS = 512;

    private final Random random;
    private final LightingDesk desk = new LightingDesk();
    private final PlainDesk plain = new PlainDesk();
    private final int channels;
    private final int lists;
    private final int numbers;
    private final int stride;
    private int tick = 0;

    private ModelTest(long seed) {
        random = new Random(seed);
        int[] spans = {3, 8, 64};
        channels = spans[random.nextInt(spans.length)];
        lists = 1 + random.nextInt(4);
        numbers = 4 + random.nextInt(40);
        stride = random.nextInt(4) == 0 ? 3000 : 12;
    }

    public static void main(String[] args) {
        for (int seed = 0; seed < RUNS; seed++) {
            new ModelTest(seed).run(seed);
        }
        Check.end();
    }

    private void run(int seed) {
        StringBuilder calls = new StringBuilder();
        int filled = seed % 3 == 0 ? channels : 0;
        for (int i = 0; i < filled; i++) {
            int channel = i;
            both(calls, "set", () -> desk.set(channel, 7) ? 1 : 0, () -> plain.set(channel, 7) ? 1 : 0);
        }
        for (int i = filled; i < CALLS; i++) {
            String got = step(calls);
            boolean failed = got.endsWith("Exception");
            if (failed || i % 32 == 0 || i == CALLS - 1) {
                if (!compareState()) {
                    System.out.println("run " + seed + ":" + calls);
                    Check.same("the same state", "another state");
                    return;
                }
            }
        }
    }

    private String step(StringBuilder calls) {
        int c = channel();
        int l = draw(lists, 4);
        int n = random.nextInt(60) == 0 ? random.nextInt(3) * 5000 : 1 + random.nextInt(numbers);
        int p = draw(3, 6);
        boolean flag = random.nextBoolean();
        switch (random.nextInt(26)) {
            case 0: return both(calls, "kind " + c + " " + flag,
                    () -> bit(desk.kind(c, flag)), () -> bit(plain.kind(c, flag)));
            case 1: case 2: case 3: {
                int v = draw(256, 256);
                return both(calls, "set " + c + " " + v, () -> bit(desk.set(c, v)), () -> bit(plain.set(c, v)));
            }
            case 4: {
                int v = draw(3, 16);
                return both(calls, "use " + c + " " + v, () -> bit(desk.use(c, v)), () -> bit(plain.use(c, v)));
            }
            case 5: {
                int r = random.nextInt(6) == 0 ? -1 : c;
                return both(calls, "release " + r, () -> desk.release(r), () -> plain.release(r));
            }
            case 6: {
                int q = draw(3, 16);
                int v = random.nextInt(5) == 0 ? -1 : draw(256, 256);
                return both(calls, "palette " + q + " " + c + " " + v,
                        () -> bit(desk.palette(q, c, v)), () -> bit(plain.palette(q, c, v)));
            }
            case 7: case 8: case 9: case 10: return both(calls, "record " + l + " " + n + " " + flag,
                    () -> desk.record(l, n, flag), () -> plain.record(l, n, flag));
            case 11: return both(calls, "update " + l + " " + n,
                    () -> desk.update(l, n), () -> plain.update(l, n));
            case 12: return both(calls, "delete " + l + " " + n + " " + flag,
                    () -> desk.delete(l, n, flag), () -> plain.delete(l, n, flag));
            case 13: return both(calls, "block " + l + " " + n + " " + flag,
                    () -> desk.block(l, n, flag), () -> plain.block(l, n, flag));
            case 14: case 15: {
                int up = time();
                int down = time();
                return both(calls, "times " + l + " " + n + " " + up + " " + down,
                        () -> bit(desk.times(l, n, up, down)), () -> bit(plain.times(l, n, up, down)));
            }
            case 16: case 17: {
                int delay = time();
                int follow = random.nextInt(3) == 0 ? -1 : time();
                return both(calls, "delays " + l + " " + n + " " + delay + " " + follow,
                        () -> bit(desk.delays(l, n, delay, follow)), () -> bit(plain.delays(l, n, delay, follow)));
            }
            case 18: return both(calls, "assign " + p + " " + l,
                    () -> bit(desk.assign(p, l)), () -> bit(plain.assign(p, l)));
            case 19: case 20: case 21: {
                int t = tick();
                boolean back = random.nextInt(4) == 0;
                return both(calls, "go " + p + " " + back + " " + t,
                        () -> desk.go(p, back, t), () -> plain.go(p, back, t));
            }
            case 22: {
                int v = draw(256, 256);
                return both(calls, "master " + p + " " + v,
                        () -> bit(desk.master(p, v)), () -> bit(plain.master(p, v)));
            }
            case 23: case 24: {
                int t = tick();
                return both(calls, "out " + c + " " + t, () -> desk.out(c, t), () -> plain.out(c, t));
            }
            default: return both(calls, "look " + l + " " + n + " " + c,
                    () -> desk.look(l, n, c), () -> plain.look(l, n, c));
        }
    }

    private static int bit(boolean answer) {
        return answer ? 1 : 0;
    }

    /** Mostly 0 .. common - 1, at times a number round the edges of 0 .. all - 1 or far off. */
    private int draw(int common, int all) {
        int[] odd = {-2, -1, 0, all - 1, all, Integer.MIN_VALUE, Integer.MAX_VALUE};
        return random.nextInt(40) == 0 ? odd[random.nextInt(odd.length)] : random.nextInt(common);
    }

    private int channel() {
        return draw(channels, 64);
    }

    private int time() {
        return random.nextInt(8) == 0 ? draw(10001, 10001) : random.nextInt(stride);
    }

    private int tick() {
        if (random.nextInt(40) == 0) {
            return draw(1, 1000000001);
        }
        tick = Math.max(tick, desk.count(3)) + random.nextInt(stride);
        return tick;
    }

    private String both(StringBuilder calls, String text, IntSupplier mine, IntSupplier due) {
        String got = Check.answer(mine);
        String want = Check.answer(due);
        calls.append("\n  ").append(text).append(" = ").append(got);
        if (!want.equals(got)) {
            System.out.println(calls + ", due is " + want);
        }
        Check.same(want, got);
        return got;
    }

    private boolean compareState() {
        boolean same = true;
        for (int what = -1; what <= 5; what++) {
            int w = what;
            same &= alike(() -> desk.count(w), () -> plain.count(w));
        }
        for (int list = -1; list <= 4; list++) {
            same &= compareList(list);
        }
        for (int playback = -1; playback <= 6; playback++) {
            for (int what = -1; what <= 72; what++) {
                int p = playback;
                int w = what;
                same &= alike(() -> desk.playback(p, w), () -> plain.playback(p, w));
            }
        }
        return same;
    }

    private boolean compareList(int list) {
        boolean same = alike(() -> desk.cue(list, -1, 0), () -> plain.cue(list, -1, 0));
        int length = list < 0 || list > 3 ? 1 : plain.cue(list, -1, 0);
        for (int place = -1; place <= length; place++) {
            for (int what = -1; what <= 6; what++) {
                int i = place;
                int w = what;
                same &= alike(() -> desk.cue(list, i, w), () -> plain.cue(list, i, w));
            }
            if (list >= 0 && list <= 3 && place >= 0 && place < length) {
                same &= compareCue(list, plain.cue(list, place, 0));
            }
        }
        return same;
    }

    private boolean compareCue(int list, int number) {
        boolean same = true;
        int last = channels == 64 ? 64 : channels;
        for (int channel = -1; channel <= last; channel++) {
            int c = channel;
            same &= alike(() -> desk.look(list, number, c), () -> plain.look(list, number, c));
            same &= alike(() -> desk.source(list, number, c), () -> plain.source(list, number, c));
        }
        return same;
    }

    private static boolean alike(IntSupplier mine, IntSupplier due) {
        return Check.answer(mine).equals(Check.answer(due));
    }
}
