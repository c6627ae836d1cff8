import java.util.NoSuchElementException;

/** The document's "Terms" up to the edits: each sentence that names an edge, in its order. */
public final class EdgesOfCuesTest {
    private static final int NONE = LightingDesk.NONE;

    public static void main(String[] args) {
        theLastCallPromised();
        channelsAreIntensitiesAtFirst();
        levels();
        palettes();
        palettesHaveNoLevelsAtFirst();
        paletteAsItIsWhenAsked();
        unsetHasNoLevel();
        cuesInTheirOrder();
        oneMoveForAChannel();
        timesAtFirst();
        sourceIsTheLastUpToThisOne();
        noSource();
        programmerIsEmptyAtFirst();
        keepingAMoveOfItsOwn();
        keepingWhatWasTracked();
        keepingNothingAsUnset();
        recordMakesTheCueIfThereIsNone();
        recordOfAnEmptyProgrammer();
        cueOnlyWithoutANextCue();
        cueOnlyKeepsTheNextCueAlone();
        updateAtTheSource();
        updateAtTheCueItself();
        deleteWithoutKeeping();
        deleteKeeping();
        deleteOfTheLastCue();
        blockWithAndWithoutASource();
        unblockOfALevel();
        unblockOfAPalette();
        unblockOfUnset();
        unblockWithoutASource();
        Check.end();
    }

    private static void theLastCallPromised() {
        Check.says("An object is used for at most 512 calls after it has been made");
        LightingDesk d = new LightingDesk();
        d.set(0, 9);
        d.record(0, 1, false);
        d.delays(0, 1, 0, 511);
        d.assign(0, 0);
        d.go(0, false, 0);
        d.record(0, 2, false);
        for (int call = 7; call <= 510; call++) {
            d.out(0, call);
        }
        Check.is(9, () -> d.out(0, 511));
        Check.is(2, () -> d.count(4));
    }

    private static void channelsAreIntensitiesAtFirst() {
        Check.says("CHANNELS 0 .. 63 are each an INTENSITY (at first) or an ATTRIBUTE.");
        LightingDesk d = new LightingDesk();
        for (int channel = 0; channel < 64; channel++) {
            d.set(channel, 200);
        }
        d.record(0, 1, false);
        for (int channel = 0; channel < 64; channel++) {
            d.set(channel, 90);
        }
        d.record(1, 1, false);
        d.release(-1);
        d.assign(0, 0);
        d.assign(1, 1);
        d.go(0, false, 1);
        d.go(1, false, 2);
        for (int channel = 0; channel < 64; channel++) {
            int c = channel;
            Check.is(200, () -> d.out(c, 2));
            d.kind(c, true);
            Check.is(90, () -> d.out(c, 2));
        }
    }

    private static void levels() {
        Check.says("LEVELS are 0 .. 255.");
        LightingDesk d = new LightingDesk();
        d.palette(0, 0, 7);
        d.use(1, 0);
        for (int level : new int[] {0, 1, 254, 255}) {
            Check.yes(() -> d.set(0, level));
            Check.is(level, () -> d.out(0, 0));
            Check.yes(() -> d.palette(0, 1, level));
            Check.is(level, () -> d.out(1, 0));
            Check.yes(() -> d.master(0, level));
            Check.is(level, () -> d.playback(0, 2));
            // A level is no palette's number, the greatest as well.
            Check.is(2, () -> d.record(0, level + 1, false));
            Check.is(level, () -> d.look(0, level + 1, 0));
        }
        Check.no(() -> d.set(0, 256));
        Check.no(() -> d.palette(0, 1, 256));
        Check.no(() -> d.master(0, 256));
        Check.no(() -> d.set(0, -1));
        Check.no(() -> d.palette(0, 1, -2));
        Check.no(() -> d.master(0, -1));
        Check.is(255, () -> d.out(0, 0));
        Check.is(255, () -> d.out(1, 0));
        Check.is(255, () -> d.playback(0, 2));
    }

    private static void palettes() {
        Check.says("A VALUE is a level, or a PALETTE 0 .. 15, or UNSET.");
        LightingDesk d = new LightingDesk();
        for (int palette : new int[] {0, 15}) {
            Check.yes(() -> d.palette(palette, 0, 50 + palette));
            Check.yes(() -> d.palette(palette, 63, 90 + palette));
            Check.yes(() -> d.use(0, palette));
            Check.yes(() -> d.use(63, palette));
            Check.is(2, () -> d.record(0, 1 + palette, false));
        }
        Check.is(50, () -> d.look(0, 1, 0));
        Check.is(90, () -> d.look(0, 1, 63));
        Check.is(65, () -> d.look(0, 16, 0));
        Check.is(105, () -> d.look(0, 16, 63));
        Check.no(() -> d.use(0, 16));
        Check.no(() -> d.use(0, -1));
        Check.no(() -> d.palette(16, 0, 1));
        Check.no(() -> d.palette(-1, 0, 1));
        Check.is(65, () -> d.out(0, 0));
    }

    private static void palettesHaveNoLevelsAtFirst() {
        Check.says("A palette has levels for channels, none at first");
        LightingDesk d = Desks.withLevels(30);
        d.go(0, false, 0);
        for (int palette = 0; palette < 16; palette++) {
            int p = palette;
            Check.yes(() -> d.use(0, p));
            // It has no level: the playback's counts.
            Check.is(30, () -> d.out(0, 0));
        }
        // Not even when the palette has one for the channel beside.
        d.palette(15, 1, 99);
        d.palette(14, 0, 99);
        Check.is(30, () -> d.out(0, 0));
        d.palette(15, 0, 0);
        Check.is(0, () -> d.out(0, 0));
    }

    private static void paletteAsItIsWhenAsked() {
        Check.says("a value that is a palette has, on a channel, the palette's level for it as it is when it is asked, or none");
        LightingDesk d = new LightingDesk();
        d.use(0, 3);
        d.record(0, 1, false);
        Check.is(NONE, () -> d.look(0, 1, 0));
        Check.is(1, () -> d.source(0, 1, 0));
        for (int level : new int[] {0, 255, 17}) {
            d.palette(3, 0, level);
            Check.is(level, () -> d.look(0, 1, 0));
            Check.is(level, () -> d.out(0, 0));
        }
        d.palette(3, 0, NONE);
        Check.is(NONE, () -> d.look(0, 1, 0));
        Check.is(0, () -> d.out(0, 0));
        Check.is(1, () -> d.source(0, 1, 0));
    }

    private static void unsetHasNoLevel() {
        Check.says("UNSET has none.");
        LightingDesk d = new LightingDesk();
        d.record(0, 2, false);
        d.set(0, 50);
        d.set(63, 60);
        d.record(0, 1, true);
        for (int channel : new int[] {0, 63}) {
            Check.is(2, () -> d.source(0, 2, channel));
            Check.is(NONE, () -> d.look(0, 2, channel));
        }
        // No palette gives it one.
        for (int palette = 0; palette < 16; palette++) {
            d.palette(palette, 0, 200);
            d.palette(palette, 63, 200);
        }
        Check.is(NONE, () -> d.look(0, 2, 0));
        Check.is(NONE, () -> d.look(0, 2, 63));
    }

    private static void cuesInTheirOrder() {
        Check.says("LISTS 0 .. 3 have CUES with numbers 1 .. 9999, in their order, 40 in all lists at most.");
        LightingDesk d = new LightingDesk();
        for (int list : new int[] {3, 0}) {
            for (int number : new int[] {9999, 1, 5000, 2, 9998}) {
                Check.is(0, () -> d.record(list, number, false));
            }
            Check.fails(IllegalArgumentException.class, () -> d.record(list, 0, false));
            Check.fails(IllegalArgumentException.class, () -> d.record(list, 10000, false));
            int[] order = {1, 2, 5000, 9998, 9999};
            for (int i = 0; i < order.length; i++) {
                int place = i;
                Check.is(order[place], () -> d.cue(list, place, 0));
            }
            Check.is(5, () -> d.cue(list, NONE, 0));
        }
        Check.fails(IllegalArgumentException.class, () -> d.record(-1, 1, false));
        Check.fails(IllegalArgumentException.class, () -> d.record(4, 1, false));
        Check.is(10, () -> d.count(0));
    }

    private static void oneMoveForAChannel() {
        Check.says("A cue has MOVES, values for channels, at most one for each");
        LightingDesk d = new LightingDesk();
        for (int channel = 0; channel < 64; channel++) {
            d.set(channel, 3);
        }
        Check.is(64, () -> d.record(0, 1, false));
        for (int channel = 0; channel < 64; channel++) {
            d.use(channel, 2);
        }
        Check.is(64, () -> d.record(0, 1, false));
        Check.is(1, () -> d.update(0, 1));
        Check.is(64, () -> d.block(0, 1, true));
        Check.is(64, () -> d.count(1));
        Check.is(NONE, () -> d.look(0, 1, 0));
        Check.is(NONE, () -> d.look(0, 1, 63));
        Check.is(64, () -> d.count(2));
    }

    private static void timesAtFirst() {
        Check.says("It has times UP, DOWN, DELAY (0 at first) and FOLLOW (NONE at first).");
        LightingDesk d = new LightingDesk();
        d.record(2, 7, false);
        for (int round = 0; round < 2; round++) {
            for (int what = 2; what <= 4; what++) {
                int w = what;
                Check.is(0, () -> d.cue(2, 0, w));
            }
            Check.is(NONE, () -> d.cue(2, 0, 5));
            // Of a cue that is made again, too; but not of one that is only recorded again.
            d.times(2, 7, 1, 2);
            d.delays(2, 7, 3, 4);
            d.record(2, 7, true);
            for (int what = 2; what <= 5; what++) {
                int w = what;
                Check.is(w - 1, () -> d.cue(2, 0, w));
            }
            d.delete(2, 7, false);
            d.record(2, 7, false);
        }
    }

    private static void sourceIsTheLastUpToThisOne() {
        Check.says("The SOURCE of a channel at a cue is the last cue, up to this one, that has a move for it; its TRACKED value is that move's; its LOOK that value's level");
        LightingDesk d = new LightingDesk();
        Desks.addCues(d, 1, 0, 10, 20, 30);
        d.record(1, 4, false);
        d.record(1, 9999, false);
        for (int number = 1; number <= 3; number++) {
            int n = number;
            Check.is(n, () -> d.source(1, n, 0));
            Check.is(10 * n, () -> d.look(1, n, 0));
        }
        for (int number : new int[] {4, 9999}) {
            Check.is(3, () -> d.source(1, number, 0));
            Check.is(30, () -> d.look(1, number, 0));
        }
        // A level of 0 is a look like another.
        Desks.only(d, 0, 0);
        d.record(1, 3, false);
        Check.is(0, () -> d.look(1, 4, 0));
        Check.is(3, () -> d.source(1, 4, 0));
    }

    private static void noSource() {
        Check.says("all NONE if there is none.");
        LightingDesk d = new LightingDesk();
        d.set(0, 10);
        d.record(1, 5, false);
        d.release(-1);
        d.record(1, 4, false);
        d.record(0, 9, false);
        d.record(2, 1, false);
        // A move behind the cue is no source, nor one of the lists beside.
        Check.is(NONE, () -> d.source(1, 4, 0));
        Check.is(NONE, () -> d.look(1, 4, 0));
        Check.is(NONE, () -> d.source(0, 9, 0));
        Check.is(NONE, () -> d.look(0, 9, 0));
        Check.is(NONE, () -> d.source(2, 1, 0));
        Check.is(NONE, () -> d.look(2, 1, 0));
        Check.is(5, () -> d.source(1, 5, 0));
        Check.is(NONE, () -> d.source(1, 5, 1));
        Check.is(NONE, () -> d.look(1, 5, 63));
    }

    private static void programmerIsEmptyAtFirst() {
        Check.says("THE PROGRAMMER has values for channels (none at first), each a level or a palette.");
        LightingDesk d = new LightingDesk();
        Check.is(0, () -> d.count(2));
        Check.is(0, () -> d.record(0, 1, false));
        Check.is(0, () -> d.update(0, 1));
        for (int channel = 0; channel < 64; channel++) {
            int c = channel;
            Check.is(0, () -> d.release(c));
            Check.is(0, () -> d.out(c, 0));
        }
        // A level takes the palette's place, and a palette the level's.
        d.palette(4, 5, 44);
        d.set(5, 33);
        d.use(5, 4);
        Check.is(1, () -> d.count(2));
        Check.is(44, () -> d.out(5, 0));
        d.set(5, 33);
        Check.is(1, () -> d.count(2));
        Check.is(33, () -> d.out(5, 0));
    }

    private static void keepingAMoveOfItsOwn() {
        Check.says("A cue KEEPS a channel: if it has no move for it");
        LightingDesk d = new LightingDesk();
        Desks.addCues(d, 0, 0, 10, 20, 30);
        Desks.only(d, 0, 99);
        Check.is(1, () -> d.record(0, 1, true));
        Check.is(20, () -> d.look(0, 2, 0));
        Check.is(3, () -> d.count(1));
        Check.is(1, () -> d.delete(0, 1, true));
        Check.is(20, () -> d.look(0, 2, 0));
        Check.is(2, () -> d.count(1));
    }

    private static void keepingWhatWasTracked() {
        Check.says("it gets one of the value that was tracked there before the edit");
        LightingDesk d = new LightingDesk();
        d.palette(2, 1, 22);
        d.set(0, 10);
        d.use(1, 2);
        d.record(0, 1, false);
        d.release(-1);
        d.record(0, 3, false);
        d.set(0, 70);
        d.set(1, 71);
        // Into cue 1 itself: what it had is what was tracked at cue 3.
        Check.is(2, () -> d.record(0, 1, true));
        Check.is(10, () -> d.look(0, 3, 0));
        Check.is(22, () -> d.look(0, 3, 1));
        Check.is(3, () -> d.source(0, 3, 1));
        // As a palette, not as its level.
        d.palette(2, 1, 23);
        Check.is(23, () -> d.look(0, 3, 1));
        // A cue made between keeps the same.
        d.release(-1);
        d.record(0, 4, false);
        d.record(0, 6, false);
        d.set(1, 80);
        Check.is(1, () -> d.record(0, 5, true));
        Check.is(23, () -> d.look(0, 6, 1));
        Check.is(6, () -> d.source(0, 6, 1));
        Check.is(3, () -> d.source(0, 6, 0));
    }

    private static void keepingNothingAsUnset() {
        Check.says("UNSET if there was none.");
        LightingDesk d = new LightingDesk();
        d.record(0, 2, false);
        d.record(0, 3, false);
        d.set(0, 50);
        Check.is(1, () -> d.record(0, 1, true));
        Check.is(1, () -> d.cue(0, 1, 1));
        Check.is(2, () -> d.source(0, 2, 0));
        Check.is(NONE, () -> d.look(0, 2, 0));
        Check.is(2, () -> d.source(0, 3, 0));
        Check.is(NONE, () -> d.look(0, 3, 0));
        // An UNSET that is tracked is kept as what it is.
        Check.is(1, () -> d.delete(0, 2, true));
        Check.is(3, () -> d.source(0, 3, 0));
        Check.is(NONE, () -> d.look(0, 3, 0));
        Check.is(1, () -> d.cue(0, 1, 1));
    }

    private static void recordMakesTheCueIfThereIsNone() {
        Check.says("RECORD: the cue is made, if there is none of the number; for each channel of the programmer its move becomes that value.");
        LightingDesk d = new LightingDesk();
        d.set(0, 10);
        Check.is(1, () -> d.record(0, 5, false));
        Check.is(1, () -> d.count(0));
        Desks.only(d, 1, 20);
        Check.is(2, () -> d.record(0, 5, false));
        Check.is(1, () -> d.count(0));
        Check.is(10, () -> d.look(0, 5, 0));
        Check.is(20, () -> d.look(0, 5, 1));
        // The number in another list is another cue, and so are its neighbours.
        Check.is(1, () -> d.record(1, 5, false));
        Check.is(1, () -> d.record(0, 4, false));
        Check.is(1, () -> d.record(0, 6, false));
        Check.is(4, () -> d.count(0));
    }

    private static void recordOfAnEmptyProgrammer() {
        Check.says("RECORD of a cue, cue-only or not: how many moves it has then.");
        LightingDesk d = new LightingDesk();
        Desks.addCues(d, 0, 0, 10, 20);
        Check.is(1, () -> d.record(0, 1, false));
        Check.is(1, () -> d.record(0, 1, true));
        Check.is(0, () -> d.record(0, 9, true));
        Check.is(0, () -> d.record(0, 8, true));
        Check.is(0, () -> d.cue(0, 3, 1));
        Check.is(2, () -> d.count(1));
        Check.is(4, () -> d.count(0));
    }

    private static void cueOnlyWithoutANextCue() {
        Check.says("CUE-ONLY: the next cue of the list, if there is one, keeps these channels.");
        LightingDesk d = new LightingDesk();
        d.record(1, 1, false);
        d.record(2, 1, false);
        d.record(3, 9999, false);
        d.set(0, 50);
        Check.is(1, () -> d.record(0, 5, true));
        Check.is(1, () -> d.record(1, 1, true));
        Check.is(1, () -> d.record(3, 9999, true));
        // The first cue of the next list is no next cue.
        Check.is(NONE, () -> d.source(2, 1, 0));
        Check.is(3, () -> d.count(1));
    }

    private static void cueOnlyKeepsTheNextCueAlone() {
        Check.says("keeps these channels.");
        LightingDesk d = new LightingDesk();
        Desks.addCues(d, 0, 5, 50);
        d.record(0, 10, false);
        d.record(0, 20, false);
        d.set(0, 1);
        Check.is(1, () -> d.record(0, 2, true));
        // Not the one behind the next, and no channel but the programmer's.
        Check.is(1, () -> d.cue(0, 2, 1));
        Check.is(0, () -> d.cue(0, 3, 1));
        Check.is(10, () -> d.source(0, 20, 0));
        Check.is(1, () -> d.source(0, 20, 5));
        Check.is(3, () -> d.count(1));
        // Without cue-only nothing is kept.
        Check.is(1, () -> d.record(0, 15, false));
        Check.is(15, () -> d.source(0, 20, 0));
        Check.is(0, () -> d.cue(0, 4, 1));
    }

    private static void updateAtTheSource() {
        Check.says("UPDATE of a cue: for each channel of the programmer the move at the channel's source");
        LightingDesk d = new LightingDesk();
        Desks.addCues(d, 0, 0, 10, 20, 30);
        d.record(0, 4, false);
        d.set(0, 99);
        Check.is(1, () -> d.update(0, 4));
        Check.is(99, () -> d.look(0, 3, 0));
        Check.is(20, () -> d.look(0, 2, 0));
        Check.is(0, () -> d.cue(0, 3, 1));
        // The cue itself may be the source, and an UNSET move is a source, too.
        Check.is(1, () -> d.update(0, 2));
        Check.is(10, () -> d.look(0, 1, 0));
        Check.is(99, () -> d.look(0, 2, 0));
        Desks.only(d, 7, 70);
        d.record(0, 3, true);
        Check.is(4, () -> d.source(0, 4, 7));
        Check.is(1, () -> d.update(0, 4));
        Check.is(70, () -> d.look(0, 4, 7));
        Check.is(5, () -> d.count(1));
    }

    private static void updateAtTheCueItself() {
        Check.says("(at the cue itself, if there is none) becomes that value.");
        LightingDesk d = new LightingDesk();
        Desks.addCues(d, 0, 0, 10);
        d.record(0, 2, false);
        d.record(0, 3, false);
        d.set(1, 5);
        Check.is(1, () -> d.update(0, 2));
        Check.is(NONE, () -> d.source(0, 1, 1));
        Check.is(2, () -> d.source(0, 2, 1));
        Check.is(2, () -> d.source(0, 3, 1));
        Check.is(1, () -> d.cue(0, 1, 1));
        // A move behind the cue is no source of it.
        Desks.only(d, 9, 90);
        d.record(0, 3, false);
        Desks.only(d, 9, 91);
        Check.is(1, () -> d.update(0, 1));
        Check.is(91, () -> d.look(0, 1, 9));
        Check.is(90, () -> d.look(0, 3, 9));
    }

    private static void deleteWithoutKeeping() {
        Check.says("DELETE takes a cue away.");
        LightingDesk d = new LightingDesk();
        Desks.addCues(d, 0, 0, 10, 20);
        d.record(0, 3, false);
        Check.is(1, () -> d.delete(0, 2, false));
        Check.is(10, () -> d.look(0, 3, 0));
        Check.is(1, () -> d.delete(0, 1, false));
        Check.is(NONE, () -> d.look(0, 3, 0));
        Check.is(0, () -> d.delete(0, 3, false));
        Check.is(0, () -> d.count(0));
        Check.is(0, () -> d.count(1));
        Check.is(0, () -> d.cue(0, NONE, 0));
        Check.fails(NoSuchElementException.class, () -> d.delete(0, 3, false));
    }

    private static void deleteKeeping() {
        Check.says("KEEPING LOOKS: the next one, if there is one, keeps the channels of which the cue had moves.");
        LightingDesk d = new LightingDesk();
        Desks.addCues(d, 0, 0, 10);
        Desks.only(d, 1, 20);
        d.record(0, 2, false);
        d.release(-1);
        d.record(0, 3, false);
        d.record(0, 4, false);
        Check.is(1, () -> d.delete(0, 2, true));
        // Of channel 0 the cue had no move: the next one has none of it either.
        Check.is(1, () -> d.cue(0, 1, 1));
        Check.is(3, () -> d.source(0, 3, 1));
        Check.is(20, () -> d.look(0, 3, 1));
        Check.is(1, () -> d.source(0, 3, 0));
        Check.is(0, () -> d.cue(0, 2, 1));
        // A cue without moves leaves none behind.
        Check.is(0, () -> d.delete(0, 4, true));
        Check.is(1, () -> d.delete(0, 1, true));
        Check.is(2, () -> d.cue(0, 0, 1));
        Check.is(10, () -> d.look(0, 3, 0));
    }

    private static void deleteOfTheLastCue() {
        Check.says("the next one, if there is one, keeps the channels");
        LightingDesk d = new LightingDesk();
        Desks.addCues(d, 0, 0, 10, 20);
        d.record(1, 1, false);
        Check.is(1, () -> d.delete(0, 2, true));
        Check.is(NONE, () -> d.source(1, 1, 0));
        Check.is(1, () -> d.delete(0, 1, true));
        Check.is(NONE, () -> d.source(1, 1, 0));
        Check.is(0, () -> d.count(1));
        Check.is(1, () -> d.count(0));
    }

    private static void blockWithAndWithoutASource() {
        Check.says("BLOCK: each channel with a source at the cue gets a move of its tracked value there.");
        LightingDesk d = new LightingDesk();
        d.palette(3, 63, 33);
        d.record(0, 5, false);
        Check.is(0, () -> d.block(0, 5, true));
        d.set(0, 0);
        d.use(63, 3);
        d.record(0, 1, false);
        Desks.only(d, 2, 20);
        d.record(0, 6, false);
        Check.is(2, () -> d.block(0, 5, true));
        Check.is(5, () -> d.source(0, 6, 0));
        Check.is(5, () -> d.source(0, 6, 63));
        Check.is(NONE, () -> d.source(0, 5, 2));
        Check.is(2, () -> d.block(0, 5, true));
        Check.is(2, () -> d.block(0, 1, true));
        // A palette stays a palette, and UNSET is a tracked value, too.
        d.palette(3, 63, 34);
        Check.is(34, () -> d.look(0, 5, 63));
        d.delete(0, 6, false);
        Desks.only(d, 2, 21);
        d.record(0, 4, true);
        d.release(-1);
        d.record(0, 7, false);
        Check.is(3, () -> d.block(0, 7, true));
        Check.is(7, () -> d.source(0, 7, 2));
        Check.is(NONE, () -> d.look(0, 7, 2));
    }

    private static void unblockOfALevel() {
        Check.says("UNBLOCK: each move is taken away whose value is the very one (the level, the palette, UNSET) that is tracked at the cue ahead");
        LightingDesk d = new LightingDesk();
        d.palette(3, 1, 11);
        d.set(0, 10);
        d.set(1, 11);
        d.set(2, 12);
        d.set(63, 13);
        d.record(0, 1, false);
        d.release(-1);
        d.record(0, 2, false);
        d.set(0, 10);
        d.use(1, 3);
        d.set(2, 13);
        d.set(63, 13);
        d.record(0, 3, false);
        Check.is(2, () -> d.block(0, 3, false));
        Check.is(1, () -> d.source(0, 3, 0));
        // A palette of the same level is not the level.
        Check.is(3, () -> d.source(0, 3, 1));
        Check.is(3, () -> d.source(0, 3, 2));
        Check.is(1, () -> d.source(0, 3, 63));
        Check.is(2, () -> d.block(0, 3, false));
        // With no cue ahead a level stays.
        Check.is(4, () -> d.block(0, 1, false));
        Check.is(0, () -> d.block(0, 2, false));
    }

    private static void unblockOfAPalette() {
        Check.says("the very one (the level, the palette, UNSET)");
        LightingDesk d = new LightingDesk();
        d.palette(0, 0, 10);
        d.palette(15, 0, 10);
        d.use(0, 0);
        d.use(1, 15);
        d.use(2, 15);
        d.record(0, 1, false);
        d.use(0, 15);
        d.set(2, 255);
        d.record(0, 2, false);
        // Another palette of the same level is not the one; one without a level is.
        Check.is(2, () -> d.block(0, 2, false));
        Check.is(2, () -> d.source(0, 2, 0));
        Check.is(1, () -> d.source(0, 2, 1));
        Check.is(2, () -> d.source(0, 2, 2));
        d.use(0, 0);
        d.record(0, 2, false);
        Check.is(1, () -> d.block(0, 2, false));
        Check.is(1, () -> d.source(0, 2, 0));
    }

    private static void unblockOfUnset() {
        Check.says("(the level, the palette, UNSET) that is tracked at the cue ahead");
        LightingDesk d = new LightingDesk();
        d.record(0, 2, false);
        d.record(0, 3, false);
        d.set(0, 50);
        d.record(0, 1, true);
        d.release(-1);
        Check.is(1, () -> d.block(0, 3, true));
        // UNSET behind a level stays, UNSET behind UNSET goes.
        Check.is(1, () -> d.block(0, 2, false));
        Check.is(1, () -> d.block(0, 3, true));
        Check.is(0, () -> d.block(0, 3, false));
        // A palette without a level is not UNSET.
        d.use(0, 9);
        d.record(0, 3, false);
        Check.is(1, () -> d.block(0, 3, false));
        Check.is(3, () -> d.source(0, 3, 0));
    }

    private static void unblockWithoutASource() {
        Check.says("with no source there one that is UNSET.");
        LightingDesk d = new LightingDesk();
        d.record(0, 2, false);
        d.set(0, 50);
        d.record(0, 1, true);
        Desks.only(d, 1, 0);
        d.use(2, 15);
        d.record(0, 2, false);
        d.delete(0, 1, false);
        d.release(-1);
        d.record(0, 1, false);
        // Cue 1 is there, but without a move: UNSET goes; level 0 and a palette without a level stay.
        Check.is(3, () -> d.cue(0, 1, 1));
        Check.is(2, () -> d.block(0, 2, false));
        Check.is(NONE, () -> d.source(0, 2, 0));
        Check.is(2, () -> d.source(0, 2, 1));
        Check.is(2, () -> d.source(0, 2, 2));
        Check.is(0, () -> d.block(0, 1, false));
        // And with no cue ahead at all, though one of the list before has the value.
        LightingDesk first = new LightingDesk();
        first.record(1, 2, false);
        first.set(0, 50);
        first.record(1, 1, true);
        first.record(0, 9999, false);
        first.delete(1, 1, false);
        Check.is(0, () -> first.block(1, 2, false));
        Check.is(1, () -> first.record(1, 2, false));
        Check.is(1, () -> first.block(1, 2, false));
    }
}
