import java.util.NoSuchElementException;
import java.util.function.IntSupplier;

/** Forty cues and six hundred moves: for each edit the last that is taken and the first refused. */
public final class LimitsTest {
    private static final String REFUSED =
            "if they would come to more than 40 cues or 600 moves they are refused.";

    public static void main(String[] args) {
        fortyCuesInOneList();
        fortyCuesInAllLists();
        editsOfFortyCues();
        recordOfANewCue();
        recordOfACueThatIsThere();
        recordCueOnly();
        recordCueOnlyWithNothingToKeep();
        updateOfMoves();
        updateAtSeveralCues();
        blockOfMoves();
        editsAtSixHundredMoves();
        deleteIsNeverRefused();
        refusedEditsChangeNothing();
        theExceptionToldFirst();
        Check.end();
    }

    private static void refused(IntSupplier call) {
        Check.fails(IllegalStateException.class, call);
    }

    private static void fortyCuesInOneList() {
        Check.says("40 in all lists at most.");
        LightingDesk d = new LightingDesk();
        for (int n = 1; n <= 40; n++) {
            int number = n * 200;
            Check.is(0, () -> d.record(0, number, false));
        }
        Check.is(40, () -> d.cue(0, -1, 0));
        // Ahead of all, between two, behind all, and in another list.
        refused(() -> d.record(0, 1, false));
        refused(() -> d.record(0, 201, true));
        refused(() -> d.record(0, 9999, false));
        refused(() -> d.record(3, 200, false));
        Check.is(40, () -> d.count(0));
        Check.is(0, () -> d.cue(3, -1, 0));
        Check.is(200, () -> d.cue(0, 0, 0));
        Check.is(8000, () -> d.cue(0, 39, 0));
    }

    private static void fortyCuesInAllLists() {
        Check.says("40 in all lists at most.");
        LightingDesk d = new LightingDesk();
        for (int n = 1; n <= 40; n++) {
            int number = n;
            Check.is(0, () -> d.record(number % 4, number, false));
        }
        for (int list = 0; list < 4; list++) {
            int l = list;
            Check.is(10, () -> d.cue(l, -1, 0));
            refused(() -> d.record(l, 50, false));
        }
        // One that goes makes room for one, in whatever list.
        Check.is(0, () -> d.delete(3, 3, false));
        Check.is(0, () -> d.record(2, 9999, true));
        refused(() -> d.record(3, 3, false));
        Check.is(9, () -> d.cue(3, -1, 0));
        Check.is(11, () -> d.cue(2, -1, 0));
        Check.is(40, () -> d.count(0));
    }

    private static void editsOfFortyCues() {
        Check.says(REFUSED);
        LightingDesk d = new LightingDesk();
        for (int n = 1; n <= 40; n++) {
            d.record(1, n, false);
        }
        d.set(0, 5);
        // No edit of the cues that are there is refused for their number.
        Check.is(1, () -> d.record(1, 1, false));
        Check.is(1, () -> d.record(1, 40, true));
        Check.is(1, () -> d.record(1, 20, true));
        Check.is(1, () -> d.cue(1, 20, 1));
        Check.is(1, () -> d.update(1, 40));
        Check.is(1, () -> d.block(1, 40, true));
        Check.is(0, () -> d.block(1, 40, false));
        Check.yes(() -> d.times(1, 40, 1, 1));
        Check.is(1, () -> d.delete(1, 1, true));
        Check.is(39, () -> d.count(0));
    }

    private static void recordOfANewCue() {
        Check.says(REFUSED);
        LightingDesk d = Desks.withRoomFor(2);
        Check.is(598, () -> d.count(1));
        d.set(0, 5);
        d.set(1, 6);
        d.set(63, 7);
        refused(() -> d.record(0, 1, false));
        Check.is(0, () -> d.cue(0, -1, 0));
        d.release(63);
        Check.is(2, () -> d.record(0, 1, false));
        Check.is(600, () -> d.count(1));
        refused(() -> d.record(0, 2, false));
        Check.is(1, () -> d.cue(0, -1, 0));
        // A cue without moves needs no room.
        d.release(-1);
        Check.is(0, () -> d.record(0, 2, true));
    }

    private static void recordOfACueThatIsThere() {
        Check.says(REFUSED);
        LightingDesk d = Desks.withRoomFor(2);
        d.set(0, 5);
        d.record(0, 1, false);
        d.set(1, 6);
        d.set(2, 7);
        // One of the three is there already: 599 and two.
        refused(() -> d.record(0, 1, false));
        Check.is(1, () -> d.cue(0, 0, 1));
        d.release(2);
        d.set(0, 8);
        Check.is(2, () -> d.record(0, 1, false));
        Check.is(8, () -> d.look(0, 1, 0));
        Check.is(600, () -> d.count(1));
        d.set(1, 9);
        Check.is(2, () -> d.record(0, 1, false));
        Check.is(9, () -> d.look(0, 1, 1));
        d.set(3, 1);
        refused(() -> d.record(0, 1, false));
        Check.is(-1, () -> d.look(0, 1, 3));
    }

    private static void recordCueOnly() {
        Check.says(REFUSED);
        LightingDesk d = Desks.withRoomFor(3);
        d.record(0, 9, false);
        d.set(0, 5);
        d.set(1, 6);
        // Two moves and two that the next cue keeps.
        refused(() -> d.record(0, 1, true));
        Check.is(1, () -> d.cue(0, -1, 0));
        Check.is(0, () -> d.cue(0, 0, 1));
        d.release(1);
        Check.is(1, () -> d.record(0, 1, true));
        Check.is(1, () -> d.cue(0, 1, 1));
        Check.is(599, () -> d.count(1));
        d.set(1, 6);
        refused(() -> d.record(0, 1, true));
        Check.is(2, () -> d.record(0, 1, false));
        Check.is(600, () -> d.count(1));
        // Now the move is there, and what the next cue keeps is one too many.
        refused(() -> d.record(0, 1, true));
        d.release(1);
        Check.is(2, () -> d.record(0, 1, true));
        Check.is(600, () -> d.count(1));
    }

    private static void recordCueOnlyWithNothingToKeep() {
        Check.says(REFUSED);
        LightingDesk d = Desks.withRoomFor(3);
        d.set(0, 5);
        d.record(0, 9, false);
        d.release(-1);
        d.record(1, 1, false);
        d.set(0, 6);
        // The next cue has a move of the channel.
        Check.is(1, () -> d.record(0, 8, true));
        // There is no next cue: the one of the next list keeps nothing.
        Check.is(1, () -> d.record(0, 10, true));
        Check.is(600, () -> d.count(1));
        Check.is(0, () -> d.cue(1, 0, 1));
    }

    private static void updateOfMoves() {
        Check.says("IllegalStateException if it is refused.");
        LightingDesk d = Desks.withRoomFor(1);
        d.record(0, 1, false);
        d.set(0, 5);
        d.set(1, 6);
        refused(() -> d.update(0, 1));
        Check.is(0, () -> d.cue(0, 0, 1));
        d.release(1);
        Check.is(1, () -> d.update(0, 1));
        Check.is(600, () -> d.count(1));
        // At a source there is no new move.
        d.set(0, 7);
        Check.is(1, () -> d.update(0, 1));
        Check.is(7, () -> d.look(0, 1, 0));
        d.set(0, 8);
        d.set(1, 6);
        refused(() -> d.update(0, 1));
        Check.is(7, () -> d.look(0, 1, 0));
    }

    private static void updateAtSeveralCues() {
        Check.says("IllegalStateException if it is refused.");
        LightingDesk d = Desks.withRoomFor(3);
        Desks.addCues(d, 0, 0, 10);
        d.record(0, 2, false);
        Desks.only(d, 1, 11);
        d.record(0, 2, false);
        d.set(0, 20);
        d.set(1, 21);
        d.set(2, 22);
        d.set(3, 23);
        // Two at their sources and two new ones, where there is room for one.
        Check.is(599, () -> d.count(1));
        refused(() -> d.update(0, 2));
        Check.is(10, () -> d.look(0, 2, 0));
        Check.is(11, () -> d.look(0, 2, 1));
        d.release(3);
        Check.is(2, () -> d.update(0, 2));
        Check.is(600, () -> d.count(1));
        Check.is(20, () -> d.look(0, 1, 0));
        Check.is(22, () -> d.look(0, 2, 2));
    }

    private static void blockOfMoves() {
        Check.says("IllegalStateException if it is refused.");
        LightingDesk d = Desks.withRoomFor(5);
        d.set(0, 5);
        d.set(1, 6);
        d.record(0, 1, false);
        Desks.only(d, 2, 7);
        d.record(0, 2, false);
        d.release(-1);
        d.record(0, 3, false);
        // 598: cue 2 wants the two that it lacks, cue 3 three.
        refused(() -> d.block(0, 3, true));
        Check.is(0, () -> d.cue(0, 2, 1));
        Check.is(1, () -> d.source(0, 3, 0));
        Check.is(3, () -> d.block(0, 2, true));
        Check.is(600, () -> d.count(1));
        Check.is(3, () -> d.block(0, 2, true));
        refused(() -> d.block(0, 3, true));
        Check.is(2, () -> d.source(0, 3, 0));
        // UNBLOCK makes the room again.
        Check.is(1, () -> d.block(0, 2, false));
        Check.is(598, () -> d.count(1));
    }

    private static void editsAtSixHundredMoves() {
        Check.says("600 in all cues at most.");
        LightingDesk d = Desks.withRoomFor(0);
        Check.is(600, () -> d.count(1));
        d.set(0, 9);
        Check.is(1, () -> d.update(3, 9999));
        Check.is(64, () -> d.record(3, 1, true));
        Check.is(64, () -> d.block(3, 2, true));
        Check.is(9, () -> d.look(3, 1, 0));
        refused(() -> d.record(0, 1, false));
        Check.is(0, () -> d.block(3, 3, false));
        Check.is(536, () -> d.count(1));
        Check.is(1, () -> d.record(0, 1, false));
    }

    private static void deleteIsNeverRefused() {
        Check.says("DELETE of a cue, keeping looks or not: how many moves it had.");
        LightingDesk d = Desks.withRoomFor(3);
        d.set(0, 5);
        d.set(1, 6);
        d.record(0, 1, false);
        Desks.only(d, 1, 7);
        d.record(0, 2, false);
        Check.is(600, () -> d.count(1));
        // What the next cue keeps comes in the place of what goes.
        Check.is(2, () -> d.delete(0, 1, true));
        Check.is(599, () -> d.count(1));
        Check.is(5, () -> d.look(0, 2, 0));
        Check.is(7, () -> d.look(0, 2, 1));
        Check.is(2, () -> d.delete(0, 2, true));
        Check.is(597, () -> d.count(1));
    }

    private static void refusedEditsChangeNothing() {
        Check.says("A call that throws, or answers false, changes nothing but what it says.");
        LightingDesk d = Desks.withRoomFor(4);
        d.set(0, 5);
        d.set(63, 6);
        d.record(0, 1, false);
        d.release(-1);
        d.record(0, 2, false);
        d.set(0, 7);
        d.set(1, 8);
        d.set(2, 9);
        State.unchanged(d, () -> {
            refused(() -> d.record(0, 3, false));
            refused(() -> d.record(0, 1, true));
            refused(() -> d.record(0, 2, false));
        });
    }

    private static void theExceptionToldFirst() {
        Check.says("Of several exceptions the one told first is thrown.");
        LightingDesk d = Desks.withRoomFor(0);
        d.set(0, 5);
        refused(() -> d.record(0, 1, false));
        Check.fails(IllegalArgumentException.class, () -> d.record(4, 1, false));
        Check.fails(IllegalArgumentException.class, () -> d.record(0, 0, false));
        Check.fails(IllegalArgumentException.class, () -> d.record(0, 10000, true));
        d.release(-1);
        d.record(0, 1, false);
        d.set(0, 5);
        refused(() -> d.update(0, 1));
        Check.fails(NoSuchElementException.class, () -> d.update(0, 2));
        Check.fails(NoSuchElementException.class, () -> d.block(0, 2, true));
        Check.fails(NoSuchElementException.class, () -> d.delete(0, 2, true));
    }
}
