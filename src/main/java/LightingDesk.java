import java.util.Arrays;
import java.util.NoSuchElementException;

/** A console for stage lights: tracking cue lists, palettes by reference and fading playbacks. */
public final class LightingDesk {
    public static final int NONE = -1;

    private static final int CHANNELS = 64;
    private static final int TOP_LEVEL = 255;
    private static final int PALETTES = 16;
    private static final int LISTS = 4;
    private static final int TOP_NUMBER = 9999;
    private static final int MOST_CUES = 40;
    private static final int MOST_MOVES = 600;
    private static final int PLAYBACKS = 6;
    private static final int LONGEST_TIME = 10000;
    private static final int LAST_TICK = 1000000000;
    private static final int FIRST_CHANNEL_WHAT = 8;

    // A follow-on only climbs its list, so a telling needs at most 41 of them for each playback.
    private static final int MOST_FOLLOW_ONS = 1000;

    // A value is one number, so that two values are the very same just when the numbers are:
    // 0 .. 255 a level, from FIRST_PALETTE on a palette, then UNSET; NONE where there is no value.
    private static final int FIRST_PALETTE = TOP_LEVEL + 1;
    private static final int UNSET = FIRST_PALETTE + PALETTES;

    private final boolean[] attributes = new boolean[CHANNELS];
    private final ValueRow programmer = new ValueRow();
    private final PaletteBox palettes = new PaletteBox();
    private final CueBook book = new CueBook();
    private final Player[] players = new Player[PLAYBACKS];
    private int now = 0;
    private int started = 0;

    public LightingDesk() {
        for (int i = 0; i < PLAYBACKS; i++) {
            players[i] = new Player();
        }
    }

    public boolean kind(int channel, boolean attribute) {
        if (!isChannel(channel)) {
            return false;
        }
        attributes[channel] = attribute;
        return true;
    }

    public boolean set(int channel, int level) {
        if (!isChannel(channel) || !isLevel(level)) {
            return false;
        }
        programmer.put(channel, level);
        return true;
    }

    public boolean use(int channel, int palette) {
        if (!isChannel(channel) || !isPalette(palette)) {
            return false;
        }
        programmer.put(channel, FIRST_PALETTE + palette);
        return true;
    }

    public int release(int channel) {
        int before = programmer.held;
        if (channel == NONE) {
            programmer.dropAll();
        } else if (isChannel(channel)) {
            programmer.drop(channel);
        }
        return before - programmer.held;
    }

    public boolean palette(int palette, int channel, int level) {
        if (!isPalette(palette) || !isChannel(channel)) {
            return false;
        }
        if (level != NONE && !isLevel(level)) {
            return false;
        }
        palettes.store(palette, channel, level);
        return true;
    }

    public int record(int list, int cue, boolean cueOnly)
            throws IllegalArgumentException, IllegalStateException {
        if (!isList(list) || !isNumber(cue)) {
            throw new IllegalArgumentException("no such list or number");
        }
        int moves = book.recordCue(programmer, list, cue, cueOnly);
        if (moves == NONE) {
            throw new IllegalStateException("too many cues or moves");
        }
        return moves;
    }

    public int update(int list, int cue) throws NoSuchElementException, IllegalStateException {
        int place = placeOrThrow(list, cue);
        int changed = book.updateSources(programmer, place);
        if (changed == NONE) {
            throw new IllegalStateException("too many moves");
        }
        return changed;
    }

    public int delete(int list, int cue, boolean keeping)
            throws NoSuchElementException, IllegalStateException {
        int place = placeOrThrow(list, cue);
        // Never refused: the next cue keeps at most as many moves as go with this one.
        return book.deleteCue(place, keeping);
    }

    public int block(int list, int cue, boolean blocks)
            throws NoSuchElementException, IllegalStateException {
        int place = placeOrThrow(list, cue);
        int moves = blocks ? book.blockCue(place) : book.unblockCue(place);
        if (moves == NONE) {
            throw new IllegalStateException("too many moves");
        }
        return moves;
    }

    public boolean times(int list, int cue, int up, int down) {
        int place = book.find(list, cue);
        if (place == NONE || !isTime(up) || !isTime(down)) {
            return false;
        }
        Cue timed = book.at(place);
        timed.up = up;
        timed.down = down;
        return true;
    }

    public boolean delays(int list, int cue, int delay, int follow) {
        int place = book.find(list, cue);
        if (place == NONE || !isTime(delay)) {
            return false;
        }
        if (follow != NONE && !isTime(follow)) {
            return false;
        }
        Cue timed = book.at(place);
        timed.delay = delay;
        timed.follow = follow;
        return true;
    }

    public int look(int list, int cue, int channel)
            throws NoSuchElementException, IndexOutOfBoundsException {
        int place = placeOrThrow(list, cue);
        if (!isChannel(channel)) {
            throw new IndexOutOfBoundsException("no such channel");
        }
        return palettes.levelOf(book.trackedAt(place, channel), channel);
    }

    public int source(int list, int cue, int channel)
            throws NoSuchElementException, IndexOutOfBoundsException {
        int place = placeOrThrow(list, cue);
        if (!isChannel(channel)) {
            throw new IndexOutOfBoundsException("no such channel");
        }
        int origin = book.sourceOf(place, channel);
        return origin == NONE ? NONE : book.at(origin).number;
    }

    public int cue(int list, int i, int what) throws IndexOutOfBoundsException {
        if (!isList(list)) {
            throw new IndexOutOfBoundsException("no such list");
        }
        int length = book.lengthOf(list);
        if (i == NONE && what == 0) {
            return length;
        }
        if (i < 0 || i >= length || what < 0 || what > 5) {
            throw new IndexOutOfBoundsException("no such cue or detail");
        }
        return book.at(book.firstOf(list) + i).detail(what);
    }

    public boolean assign(int playback, int list) {
        if (!isPlayback(playback) || !isList(list)) {
            return false;
        }
        Player player = players[playback];
        if (player.startTick != NONE) {
            return false;
        }
        player.list = list;
        return true;
    }

    public int go(int playback, boolean back, int tick)
            throws IllegalArgumentException, NoSuchElementException {
        if (!isPlayback(playback) || !isTellable(tick)) {
            throw new IllegalArgumentException("no such playback or tick");
        }
        tell(tick);
        Player player = players[playback];
        int place = back
                ? book.placeBelow(player.list, player.current)
                : book.placeAbove(player.list, player.current);
        if (place == NONE) {
            throw new NoSuchElementException("no list or no such cue");
        }
        startCue(player, place, tick);
        return player.current;
    }

    public boolean master(int playback, int level) {
        if (!isPlayback(playback) || !isLevel(level)) {
            return false;
        }
        players[playback].master = level;
        return true;
    }

    public int out(int channel, int tick) throws IllegalArgumentException {
        if (!isChannel(channel) || !isTellable(tick)) {
            throw new IllegalArgumentException("no such channel or tick");
        }
        tell(tick);
        int held = palettes.levelOf(programmer.valueAt(channel), channel);
        if (held != NONE) {
            return held;
        }
        return attributes[channel] ? latestLevel(channel) : greatestLevel(channel);
    }

    public int playback(int playback, int what) throws IndexOutOfBoundsException {
        if (!isPlayback(playback)) {
            throw new IndexOutOfBoundsException("no such playback");
        }
        Player player = players[playback];
        switch (what) {
            case 0: return player.list;
            case 1: return player.current;
            case 2: return player.master;
            case 3: return player.startTick;
            case 4: return player.followOn;
            default: break;
        }
        if (what < FIRST_CHANNEL_WHAT || what >= FIRST_CHANNEL_WHAT + CHANNELS) {
            throw new IndexOutOfBoundsException("no such detail");
        }
        return player.levelAt(what - FIRST_CHANNEL_WHAT, now);
    }

    public int count(int what) {
        switch (what) {
            case 0: return book.size;
            case 1: return book.moveCount();
            case 2: return programmer.held;
            case 3: return now;
            case 4: return started;
            default: return NONE;
        }
    }

    private static boolean isChannel(int channel) {
        return channel >= 0 && channel < CHANNELS;
    }

    private static boolean isLevel(int level) {
        return level >= 0 && level <= TOP_LEVEL;
    }

    private static boolean isPalette(int palette) {
        return palette >= 0 && palette < PALETTES;
    }

    private static boolean isList(int list) {
        return list >= 0 && list < LISTS;
    }

    private static boolean isNumber(int number) {
        return number >= 1 && number <= TOP_NUMBER;
    }

    private static boolean isPlayback(int playback) {
        return playback >= 0 && playback < PLAYBACKS;
    }

    private static boolean isTime(int time) {
        return time >= 0 && time <= LONGEST_TIME;
    }

    private int placeOrThrow(int list, int number) {
        int place = book.find(list, number);
        if (place == NONE) {
            throw new NoSuchElementException("no such cue");
        }
        return place;
    }

    private boolean isTellable(int tick) {
        return tick >= now && tick <= LAST_TICK;
    }

    private void tell(int tick) {
        for (int done = 0; done < MOST_FOLLOW_ONS; done++) {
            int due = earliestDue(tick);
            if (due == NONE) {
                break;
            }
            followOn(players[due]);
        }
        now = tick;
    }

    private int earliestDue(int tick) {
        int due = NONE;
        int dueTick = tick;
        for (int i = 0; i < PLAYBACKS; i++) {
            int at = players[i].followOn;
            if (at == NONE || at > dueTick) {
                continue;
            }
            if (due == NONE || at < dueTick) {
                due = i;
                dueTick = at;
            }
        }
        return due;
    }

    private void followOn(Player player) {
        int place = book.placeAbove(player.list, player.current);
        if (place == NONE) {
            player.followOn = NONE;
        } else {
            startCue(player, place, player.followOn);
        }
    }

    private void startCue(Player player, int place, int tick) {
        Cue cue = book.at(place);
        for (int channel = 0; channel < CHANNELS; channel++) {
            int look = palettes.levelOf(book.trackedAt(place, channel), channel);
            if (look != NONE) {
                player.fade(channel, look, cue, tick);
            }
        }
        player.current = cue.number;
        player.startTick = tick;
        player.followOn = cue.follow == NONE ? NONE : tick + cue.follow;
        started++;
    }

    private int greatestLevel(int channel) {
        int greatest = 0;
        for (int i = 0; i < PLAYBACKS; i++) {
            int level = players[i].levelAt(channel, now) * players[i].master / TOP_LEVEL;
            greatest = Math.max(greatest, level);
        }
        return greatest;
    }

    private int latestLevel(int channel) {
        int level = 0;
        int latest = 0;
        for (int i = 0; i < PLAYBACKS; i++) {
            int at = players[i].lookTick(channel);
            // Not only a later tick: of one tick the playback with the greatest number counts.
            if (at != NONE && at >= latest) {
                latest = at;
                level = players[i].levelAt(channel, now);
            }
        }
        return level;
    }

    /** Values for channels, at most one for each: the programmer's, or a cue's moves. */
    private static final class ValueRow {
        private final int[] values = new int[CHANNELS];
        private int held = 0;

        ValueRow() {
            Arrays.fill(values, NONE);
        }

        boolean has(int channel) {
            return values[channel] != NONE;
        }

        int valueAt(int channel) {
            return values[channel];
        }

        void put(int channel, int value) {
            if (values[channel] == NONE) {
                held++;
            }
            values[channel] = value;
        }

        void drop(int channel) {
            if (values[channel] != NONE) {
                held--;
            }
            values[channel] = NONE;
        }

        void dropAll() {
            Arrays.fill(values, NONE);
            held = 0;
        }

        int lackedOf(ValueRow other) {
            int lacked = 0;
            for (int channel = 0; channel < CHANNELS; channel++) {
                if (other.has(channel) && !has(channel)) {
                    lacked++;
                }
            }
            return lacked;
        }
    }

    /** The levels that palettes have for channels. */
    private static final class PaletteBox {
        private final int[] levels = new int[PALETTES * CHANNELS];

        PaletteBox() {
            Arrays.fill(levels, NONE);
        }

        void store(int palette, int channel, int level) {
            levels[palette * CHANNELS + channel] = level;
        }

        int levelOf(int value, int channel) {
            if (value < 0 || value >= UNSET) {
                return NONE;
            }
            if (value < FIRST_PALETTE) {
                return value;
            }
            return levels[(value - FIRST_PALETTE) * CHANNELS + channel];
        }
    }

    /** A cue of a list: its moves and its times. */
    private static final class Cue {
        private final ValueRow moves = new ValueRow();
        private int list = NONE;
        private int number = NONE;
        private int up = 0;
        private int down = 0;
        private int delay = 0;
        private int follow = NONE;

        void beginAs(int newList, int newNumber) {
            list = newList;
            number = newNumber;
            up = 0;
            down = 0;
            delay = 0;
            follow = NONE;
            moves.dropAll();
        }

        boolean isBefore(int otherList, int otherNumber) {
            return list < otherList || (list == otherList && number < otherNumber);
        }

        int detail(int what) {
            switch (what) {
                case 0: return number;
                case 1: return moves.held;
                case 2: return up;
                case 3: return down;
                case 4: return delay;
                case 5: return follow;
                default: return NONE;
            }
        }
    }

    /**
     * The cues of all lists in one row, by list and number. A place is an index below size; the
     * cues from size on are spare, so that the same forty serve for ever and none is null.
     */
    private static final class CueBook {
        private final Cue[] cues = new Cue[MOST_CUES];
        private int size = 0;

        CueBook() {
            for (int i = 0; i < MOST_CUES; i++) {
                cues[i] = new Cue();
            }
        }

        Cue at(int place) {
            return cues[place];
        }

        int moveCount() {
            int moves = 0;
            for (int i = 0; i < size; i++) {
                moves += cues[i].moves.held;
            }
            return moves;
        }

        int firstOf(int list) {
            return placeFor(list, 0);
        }

        int lengthOf(int list) {
            return firstOf(list + 1) - firstOf(list);
        }

        int find(int list, int number) {
            int place = placeFor(list, number);
            return isIn(place, list) && cues[place].number == number ? place : NONE;
        }

        int placeAbove(int list, int number) {
            int place = placeFor(list, number + 1);
            return isIn(place, list) ? place : NONE;
        }

        int placeBelow(int list, int number) {
            int place = placeFor(list, number) - 1;
            return isIn(place, list) ? place : NONE;
        }

        int sourceOf(int place, int channel) {
            if (place < 0 || place >= size) {
                return NONE;
            }
            int list = cues[place].list;
            for (int i = place; i >= 0 && cues[i].list == list; i--) {
                if (cues[i].moves.has(channel)) {
                    return i;
                }
            }
            return NONE;
        }

        int trackedAt(int place, int channel) {
            int origin = sourceOf(place, channel);
            return origin == NONE ? NONE : cues[origin].moves.valueAt(channel);
        }

        /** Answers how many moves the cue has then, NONE if it is refused. */
        int recordCue(ValueRow values, int list, int number, boolean cueOnly) {
            int place = placeFor(list, number);
            boolean made = find(list, number) == NONE;
            if (made && size >= MOST_CUES) {
                return NONE;
            }
            int keeper = cueOnly ? placeAbove(list, number) : NONE;
            int added = made ? values.held : cues[place].moves.lackedOf(values);
            if (keeper != NONE) {
                added += cues[keeper].moves.lackedOf(values);
            }
            if (moveCount() + added > MOST_MOVES) {
                return NONE;
            }
            if (made) {
                insert(place, list, number);
            }
            // Keeping comes first: it wants what was tracked before the edit.
            if (keeper != NONE) {
                keepChannels(made ? keeper + 1 : keeper, values);
            }
            putAll(place, values);
            return cues[place].moves.held;
        }

        /** Answers how many cues have moves changed or made, NONE if it is refused. */
        int updateSources(ValueRow values, int place) {
            int added = 0;
            for (int channel = 0; channel < CHANNELS; channel++) {
                if (values.has(channel) && sourceOf(place, channel) == NONE) {
                    added++;
                }
            }
            if (moveCount() + added > MOST_MOVES) {
                return NONE;
            }
            long changed = 0;
            for (int channel = 0; channel < CHANNELS; channel++) {
                if (values.has(channel)) {
                    int origin = sourceOf(place, channel);
                    int target = origin == NONE ? place : origin;
                    cues[target].moves.put(channel, values.valueAt(channel));
                    changed |= 1L << target;
                }
            }
            return Long.bitCount(changed);
        }

        /** Answers how many moves the cue had. */
        int deleteCue(int place, boolean keeping) {
            ValueRow moves = cues[place].moves;
            int keeper = placeAbove(cues[place].list, cues[place].number);
            if (keeping && keeper != NONE) {
                keepChannels(keeper, moves);
            }
            takeOut(place);
            return moves.held;
        }

        /** Answers how many moves the cue has then, NONE if it is refused. */
        int blockCue(int place) {
            ValueRow moves = cues[place].moves;
            int added = 0;
            for (int channel = 0; channel < CHANNELS; channel++) {
                if (!moves.has(channel) && sourceOf(place, channel) != NONE) {
                    added++;
                }
            }
            if (moveCount() + added > MOST_MOVES) {
                return NONE;
            }
            for (int channel = 0; channel < CHANNELS; channel++) {
                int tracked = trackedAt(place, channel);
                if (tracked != NONE) {
                    moves.put(channel, tracked);
                }
            }
            return moves.held;
        }

        /** Answers how many moves the cue has then. */
        int unblockCue(int place) {
            ValueRow moves = cues[place].moves;
            int ahead = placeBelow(cues[place].list, cues[place].number);
            for (int channel = 0; channel < CHANNELS; channel++) {
                if (moves.valueAt(channel) == orUnset(trackedAt(ahead, channel))) {
                    moves.drop(channel);
                }
            }
            return moves.held;
        }

        private void keepChannels(int place, ValueRow channels) {
            ValueRow moves = cues[place].moves;
            for (int channel = 0; channel < CHANNELS; channel++) {
                if (channels.has(channel) && !moves.has(channel)) {
                    moves.put(channel, orUnset(trackedAt(place, channel)));
                }
            }
        }

        private void putAll(int place, ValueRow values) {
            for (int channel = 0; channel < CHANNELS; channel++) {
                if (values.has(channel)) {
                    cues[place].moves.put(channel, values.valueAt(channel));
                }
            }
        }

        private static int orUnset(int tracked) {
            return tracked == NONE ? UNSET : tracked;
        }

        private boolean isIn(int place, int list) {
            return place >= 0 && place < size && cues[place].list == list;
        }

        private int placeFor(int list, int number) {
            int place = 0;
            while (place < size && cues[place].isBefore(list, number)) {
                place++;
            }
            return place;
        }

        private void insert(int place, int list, int number) {
            Cue spare = cues[size];
            for (int i = size; i > place; i--) {
                cues[i] = cues[i - 1];
            }
            cues[place] = spare;
            size++;
            spare.beginAs(list, number);
        }

        private void takeOut(int place) {
            Cue gone = cues[place];
            size--;
            for (int i = place; i < size; i++) {
                cues[i] = cues[i + 1];
            }
            cues[size] = gone;
        }
    }

    /** A playback: its list, its current cue and a fade for each channel. */
    private static final class Player {
        private final int[] from = new int[CHANNELS];
        private final int[] to = new int[CHANNELS];
        private final int[] begin = new int[CHANNELS];
        private final int[] length = new int[CHANNELS];
        private final int[] lookTicks = new int[CHANNELS];
        private int list = NONE;
        private int master = TOP_LEVEL;
        private int current = 0;
        private int startTick = NONE;
        private int followOn = NONE;

        Player() {
            Arrays.fill(lookTicks, NONE);
        }

        /** The tick at which a cue with a look of the channel started last, NONE without. */
        int lookTick(int channel) {
            return lookTicks[channel];
        }

        int levelAt(int channel, int tick) {
            int passed = tick - begin[channel];
            int whole = length[channel];
            if (passed < 0) {
                return from[channel];
            }
            if (passed >= whole) {
                return to[channel];
            }
            return from[channel] + (to[channel] - from[channel]) * passed / whole;
        }

        void fade(int channel, int level, Cue cue, int tick) {
            int before = levelAt(channel, tick);
            from[channel] = before;
            to[channel] = level;
            begin[channel] = tick + cue.delay;
            length[channel] = level >= before ? cue.up : cue.down;
            lookTicks[channel] = tick;
        }
    }
}
