/** Desks that several tests begin with. */
final class Desks {
    private Desks() {
    }

    /** The programmer has this level for this channel, and nothing else. */
    static void only(LightingDesk d, int channel, int level) {
        d.release(-1);
        d.set(channel, level);
    }

    /** A list gets cues 1, 2, 3 .. that have a move of one channel each, of these levels. */
    static void addCues(LightingDesk d, int list, int channel, int... levels) {
        for (int i = 0; i < levels.length; i++) {
            only(d, channel, levels[i]);
            d.record(list, i + 1, false);
        }
        d.release(-1);
    }

    /** Playback 0 has list 0 with cues 1, 2, 3 .. of these levels for channel 0. */
    static LightingDesk withLevels(int... levels) {
        LightingDesk d = new LightingDesk();
        addCues(d, 0, 0, levels);
        d.assign(0, 0);
        return d;
    }

    /**
     * A desk with something of everything, at tick 120. List 0 has cues 10 and 20, list 1 cue 10;
     * playback 0 fades in cue 10 and follows on at 150, playback 1 stands in its last cue; the
     * programmer has channel 2; channel 1 is an attribute; palette 1 has a level for channel 63.
     */
    static LightingDesk busy() {
        LightingDesk d = new LightingDesk();
        d.palette(1, 63, 41);
        d.set(0, 200);
        d.use(63, 1);
        d.record(0, 10, false);
        d.release(-1);
        d.set(0, 100);
        d.set(1, 30);
        d.record(0, 20, false);
        d.set(0, 250);
        d.set(1, 60);
        d.record(1, 10, false);
        only(d, 2, 77);
        d.kind(1, true);
        d.times(0, 10, 100, 50);
        d.delays(0, 10, 5, 50);
        d.assign(0, 0);
        d.assign(1, 1);
        d.master(1, 51);
        d.go(1, false, 90);
        d.go(0, false, 100);
        d.out(0, 120);
        return d;
    }

    /** List 3 has cues of so many moves that there is room for this many more, up to 64. */
    static LightingDesk withRoomFor(int moves) {
        LightingDesk d = new LightingDesk();
        for (int channel = 0; channel < 64; channel++) {
            d.set(channel, 1);
        }
        int filled = 600 - moves;
        for (int number = 1; number <= filled / 64; number++) {
            d.record(3, number, false);
        }
        for (int channel = filled % 64; channel < 64; channel++) {
            d.release(channel);
        }
        d.record(3, 9999, false);
        d.release(-1);
        return d;
    }
}
