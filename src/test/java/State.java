/**
 * What can be seen of a desk, as a text, to show that a call changed nothing. A desk is promised
 * for 512 calls alone, so it looks at some channels and at the first cues of each list: fewer
 * than 190 calls.
 */
final class State {
    private static final int[] CHANNELS = {0, 1, 2, 63};
    private static final int CUES = 2;

    private State() {
    }

    /** Makes the calls and looks whether the desk is then what it was. */
    static void unchanged(LightingDesk d, Runnable calls) {
        String before = of(d);
        calls.run();
        Check.same(before, of(d));
    }

    static String of(LightingDesk d) {
        StringBuilder s = new StringBuilder();
        for (int what = 0; what <= 4; what++) {
            s.append(d.count(what)).append(' ');
        }
        for (int list = 0; list < 4; list++) {
            addList(s, d, list);
        }
        for (int playback = 0; playback < 6; playback++) {
            addPlayback(s, d, playback);
        }
        // Asked last, and at the tick told last: it does no follow-on but one of FOLLOW 0.
        s.append("\n out");
        for (int channel : CHANNELS) {
            s.append(' ').append(d.out(channel, d.count(3)));
        }
        return s.toString();
    }

    private static void addList(StringBuilder s, LightingDesk d, int list) {
        int length = d.cue(list, -1, 0);
        s.append("\n list ").append(list).append(" of ").append(length);
        for (int i = 0; i < Math.min(length, CUES); i++) {
            int number = d.cue(list, i, 0);
            s.append("\n  cue ").append(number);
            for (int what = 1; what <= 5; what++) {
                s.append(' ').append(d.cue(list, i, what));
            }
            for (int channel : CHANNELS) {
                s.append(' ').append(d.look(list, number, channel));
                s.append(" of ").append(d.source(list, number, channel));
            }
        }
    }

    private static void addPlayback(StringBuilder s, LightingDesk d, int playback) {
        s.append("\n playback ").append(playback);
        for (int what = 0; what <= 4; what++) {
            s.append(' ').append(d.playback(playback, what));
        }
        for (int channel : CHANNELS) {
            s.append(' ').append(d.playback(playback, 8 + channel));
        }
    }
}
