import java.util.ArrayList;
import java.util.HashMap;
import java.util.List;
import java.util.Map;
import java.util.NoSuchElementException;
import java.util.TreeMap;
import java.util.TreeSet;
import java.util.function.IntUnaryOperator;

/**
 * The document written down a second time, as plainly as the library allows and with nothing in
 * common with the class: values are texts, edits work on copies, fades are functions of the tick.
 */
final class PlainDesk {
    private static final int NONE = -1;

    private static final class Cue {
        final TreeMap<Integer, String> moves = new TreeMap<>();
        int up, down, delay, follow = NONE;

        Cue copy() {
            Cue c = new Cue();
            c.moves.putAll(moves);
            c.up = up;
            c.down = down;
            c.delay = delay;
            c.follow = follow;
            return c;
        }
    }

    private static final class Play {
        int list = NONE, master = 255, current = 0, start = NONE, follow = NONE;
        final Map<Integer, IntUnaryOperator> levels = new HashMap<>();
        final Map<Integer, Integer> lookTicks = new HashMap<>();

        int level(int channel, int tick) {
            return levels.getOrDefault(channel, x -> 0).applyAsInt(tick);
        }
    }

    private final TreeSet<Integer> attributes = new TreeSet<>();
    private final TreeMap<Integer, String> programmer = new TreeMap<>();
    private final Map<String, Integer> palettes = new HashMap<>();
    private List<TreeMap<Integer, Cue>> lists = new ArrayList<>();
    private final List<Play> plays = new ArrayList<>();
    private int tick = 0;
    private int started = 0;

    PlainDesk() {
        for (int i = 0; i < 4; i++) {
            lists.add(new TreeMap<>());
        }
        for (int i = 0; i < 6; i++) {
            plays.add(new Play());
        }
    }

    private static boolean within(int x, int low, int high) {
        return low <= x && x <= high;
    }

    boolean kind(int channel, boolean attribute) {
        if (!within(channel, 0, 63)) {
            return false;
        }
        if (attribute) {
            attributes.add(channel);
        } else {
            attributes.remove(channel);
        }
        return true;
    }

    boolean set(int channel, int level) {
        if (!within(channel, 0, 63) || !within(level, 0, 255)) {
            return false;
        }
        programmer.put(channel, "L" + level);
        return true;
    }

    boolean use(int channel, int palette) {
        if (!within(channel, 0, 63) || !within(palette, 0, 15)) {
            return false;
        }
        programmer.put(channel, "P" + palette);
        return true;
    }

    int release(int channel) {
        if (channel == NONE) {
            int had = programmer.size();
            programmer.clear();
            return had;
        }
        return programmer.remove(channel) == null ? 0 : 1;
    }

    boolean palette(int palette, int channel, int level) {
        if (!within(palette, 0, 15) || !within(channel, 0, 63) || !within(level, -1, 255)) {
            return false;
        }
        if (level == NONE) {
            palettes.remove("P" + palette + "@" + channel);
        } else {
            palettes.put("P" + palette + "@" + channel, level);
        }
        return true;
    }

    private int levelOf(String value, int channel) {
        if (value == null || value.equals("U")) {
            return NONE;
        }
        if (value.startsWith("L")) {
            return Integer.parseInt(value.substring(1));
        }
        return palettes.getOrDefault(value + "@" + channel, NONE);
    }

    private static Integer sourceIn(TreeMap<Integer, Cue> cues, Integer number, int channel) {
        if (number == null) {
            return null;
        }
        for (Integer n : cues.headMap(number, true).descendingKeySet()) {
            if (cues.get(n).moves.containsKey(channel)) {
                return n;
            }
        }
        return null;
    }

    private static String trackedIn(TreeMap<Integer, Cue> cues, Integer number, int channel) {
        Integer n = sourceIn(cues, number, channel);
        return n == null ? null : cues.get(n).moves.get(channel);
    }

    private List<TreeMap<Integer, Cue>> copyOfLists() {
        List<TreeMap<Integer, Cue>> copy = new ArrayList<>();
        for (TreeMap<Integer, Cue> list : lists) {
            TreeMap<Integer, Cue> cues = new TreeMap<>();
            list.forEach((n, c) -> cues.put(n, c.copy()));
            copy.add(cues);
        }
        return copy;
    }

    private void accept(List<TreeMap<Integer, Cue>> edited) {
        int cues = 0;
        int moves = 0;
        for (TreeMap<Integer, Cue> list : edited) {
            cues += list.size();
            for (Cue c : list.values()) {
                moves += c.moves.size();
            }
        }
        if (cues > 40 || moves > 600) {
            throw new IllegalStateException();
        }
        lists = edited;
    }

    private void keeps(TreeMap<Integer, Cue> edited, int list, Integer number, int channel) {
        if (number == null || edited.get(number).moves.containsKey(channel)) {
            return;
        }
        String before = trackedIn(lists.get(list), number, channel);
        edited.get(number).moves.put(channel, before == null ? "U" : before);
    }

    private boolean exists(int list, int cue) {
        return within(list, 0, 3) && lists.get(list).containsKey(cue);
    }

    private void need(int list, int cue) {
        if (!exists(list, cue)) {
            throw new NoSuchElementException();
        }
    }

    int record(int list, int cue, boolean cueOnly) {
        if (!within(list, 0, 3) || !within(cue, 1, 9999)) {
            throw new IllegalArgumentException();
        }
        List<TreeMap<Integer, Cue>> edited = copyOfLists();
        TreeMap<Integer, Cue> cues = edited.get(list);
        cues.putIfAbsent(cue, new Cue());
        cues.get(cue).moves.putAll(programmer);
        if (cueOnly) {
            for (int channel : programmer.keySet()) {
                keeps(cues, list, cues.higherKey(cue), channel);
            }
        }
        accept(edited);
        return lists.get(list).get(cue).moves.size();
    }

    int update(int list, int cue) {
        need(list, cue);
        List<TreeMap<Integer, Cue>> edited = copyOfLists();
        TreeSet<Integer> touched = new TreeSet<>();
        for (int channel : programmer.keySet()) {
            Integer n = sourceIn(lists.get(list), cue, channel);
            int target = n == null ? cue : n;
            edited.get(list).get(target).moves.put(channel, programmer.get(channel));
            touched.add(target);
        }
        accept(edited);
        return touched.size();
    }

    int delete(int list, int cue, boolean keeping) {
        need(list, cue);
        List<TreeMap<Integer, Cue>> edited = copyOfLists();
        Cue gone = edited.get(list).remove(cue);
        if (keeping) {
            for (int channel : gone.moves.keySet()) {
                keeps(edited.get(list), list, edited.get(list).higherKey(cue), channel);
            }
        }
        accept(edited);
        return gone.moves.size();
    }

    int block(int list, int cue, boolean blocks) {
        need(list, cue);
        List<TreeMap<Integer, Cue>> edited = copyOfLists();
        TreeMap<Integer, Cue> before = lists.get(list);
        TreeMap<Integer, String> moves = edited.get(list).get(cue).moves;
        for (int channel = 0; channel < 64; channel++) {
            String here = trackedIn(before, cue, channel);
            String ahead = trackedIn(before, before.lowerKey(cue), channel);
            if (blocks && here != null) {
                moves.put(channel, here);
            }
            if (!blocks && moves.containsKey(channel)) {
                if (moves.get(channel).equals(ahead == null ? "U" : ahead)) {
                    moves.remove(channel);
                }
            }
        }
        accept(edited);
        return moves.size();
    }

    boolean times(int list, int cue, int up, int down) {
        if (!exists(list, cue) || !within(up, 0, 10000) || !within(down, 0, 10000)) {
            return false;
        }
        lists.get(list).get(cue).up = up;
        lists.get(list).get(cue).down = down;
        return true;
    }

    boolean delays(int list, int cue, int delay, int follow) {
        if (!exists(list, cue) || !within(delay, 0, 10000) || !within(follow, -1, 10000)) {
            return false;
        }
        lists.get(list).get(cue).delay = delay;
        lists.get(list).get(cue).follow = follow;
        return true;
    }

    int look(int list, int cue, int channel) {
        need(list, cue);
        if (!within(channel, 0, 63)) {
            throw new IndexOutOfBoundsException();
        }
        return levelOf(trackedIn(lists.get(list), cue, channel), channel);
    }

    int source(int list, int cue, int channel) {
        need(list, cue);
        if (!within(channel, 0, 63)) {
            throw new IndexOutOfBoundsException();
        }
        Integer n = sourceIn(lists.get(list), cue, channel);
        return n == null ? NONE : n;
    }

    int cue(int list, int i, int what) {
        if (!within(list, 0, 3)) {
            throw new IndexOutOfBoundsException();
        }
        List<Integer> numbers = new ArrayList<>(lists.get(list).keySet());
        if (i == NONE && what == 0) {
            return numbers.size();
        }
        if (!within(i, 0, numbers.size() - 1) || !within(what, 0, 5)) {
            throw new IndexOutOfBoundsException();
        }
        Cue c = lists.get(list).get(numbers.get(i));
        return List.of(numbers.get(i), c.moves.size(), c.up, c.down, c.delay, c.follow).get(what);
    }

    boolean assign(int playback, int list) {
        if (!within(playback, 0, 5) || !within(list, 0, 3) || plays.get(playback).start != NONE) {
            return false;
        }
        plays.get(playback).list = list;
        return true;
    }

    int go(int playback, boolean back, int at) {
        if (!within(playback, 0, 5) || !within(at, tick, 1000000000)) {
            throw new IllegalArgumentException();
        }
        tell(at);
        Play p = plays.get(playback);
        Integer number = target(p, back);
        if (number == null) {
            throw new NoSuchElementException();
        }
        start(p, number, at);
        return number;
    }

    private Integer target(Play p, boolean back) {
        if (p.list == NONE) {
            return null;
        }
        TreeMap<Integer, Cue> cues = lists.get(p.list);
        return back ? cues.lowerKey(p.current) : cues.higherKey(p.current);
    }

    private void start(Play p, int number, int at) {
        Cue c = lists.get(p.list).get(number);
        for (int channel = 0; channel < 64; channel++) {
            int b = look(p.list, number, channel);
            if (b == NONE) {
                continue;
            }
            int a = p.level(channel, at);
            int t = at + c.delay;
            int n = b >= a ? c.up : c.down;
            p.levels.put(channel, x -> x < t ? a : x >= t + n ? b : a + (b - a) * (x - t) / n);
            p.lookTicks.put(channel, at);
        }
        p.current = number;
        p.start = at;
        p.follow = c.follow == NONE ? NONE : at + c.follow;
        started++;
    }

    private void tell(int at) {
        while (true) {
            Play first = null;
            for (Play p : plays) {
                if (p.follow != NONE && p.follow <= at && (first == null || p.follow < first.follow)) {
                    first = p;
                }
            }
            if (first == null) {
                break;
            }
            Integer number = target(first, false);
            if (number == null) {
                first.follow = NONE;
            } else {
                start(first, number, first.follow);
            }
        }
        tick = at;
    }

    boolean master(int playback, int level) {
        if (!within(playback, 0, 5) || !within(level, 0, 255)) {
            return false;
        }
        plays.get(playback).master = level;
        return true;
    }

    int out(int channel, int at) {
        if (!within(channel, 0, 63) || !within(at, tick, 1000000000)) {
            throw new IllegalArgumentException();
        }
        tell(at);
        int held = levelOf(programmer.get(channel), channel);
        if (held != NONE) {
            return held;
        }
        int greatest = 0;
        Play last = null;
        for (Play p : plays) {
            greatest = Math.max(greatest, Math.floorDiv(p.level(channel, at) * p.master, 255));
            Integer mine = p.lookTicks.get(channel);
            if (mine != null && (last == null || mine >= last.lookTicks.get(channel))) {
                last = p;
            }
        }
        if (attributes.contains(channel)) {
            return last == null ? 0 : last.level(channel, at);
        }
        return greatest;
    }

    int playback(int playback, int what) {
        if (!within(playback, 0, 5) || !within(what, 0, 71) || within(what, 5, 7)) {
            throw new IndexOutOfBoundsException();
        }
        Play p = plays.get(playback);
        if (what >= 8) {
            return p.level(what - 8, tick);
        }
        return List.of(p.list, p.current, p.master, p.start, p.follow).get(what);
    }

    int count(int what) {
        int cues = 0;
        int moves = 0;
        for (TreeMap<Integer, Cue> list : lists) {
            cues += list.size();
            for (Cue c : list.values()) {
                moves += c.moves.size();
            }
        }
        List<Integer> counts = List.of(cues, moves, programmer.size(), tick, started);
        return within(what, 0, 4) ? counts.get(what) : NONE;
    }
}
