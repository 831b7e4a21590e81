/** Promises 12 to 15: snapshots, saved states and undo. */
public final class SavesTests {
    private static final String ARGUMENT = "IllegalArgumentException";
    private static final String STATE = "IllegalStateException";

    public static void main(String[] args) {
        keep();
        goBack();
        all();
        refused();
        undo();
        oldestDropped();
        everyUndoable();
        notUndoable();
        Check.end("SavesTests");
    }

    private static void keep() {
        HallGuards hall = new HallGuards();
        Check.due("12 keep(0)", "done", Check.done(() -> hall.keep(0)));
        Check.due("12 not undoable", 0, hall::savedStates);
        Check.due("12 the other slot is empty", "throws." + STATE, Check.done(() -> hall.goBack(1)));
        Check.go(hall, "d1", "c1");
        hall.keep(1);
        Check.go(hall, "d3", "e3");
        hall.keep(0);
        Check.go(hall, "c1", "b1");
        hall.goBack(0);
        Check.due("12 in place of the one before", 2, hall::moves);
        hall.goBack(1);
        Check.due("12 the other one", 1, hall::moves);
    }

    private static void goBack() {
        HallGuards hall = new HallGuards();
        hall.keep(1);
        Check.go(hall, "d1", "c1");
        Check.type(hall, "d1c");
        hall.goBack(1);
        Check.due("13 moves()", 0, hall::moves);
        Check.due("13 savedStates()", 2, hall::savedStates);
        Check.due("13 the buffer stays", 3, hall::clearBuffer);
        hall.undo();
        Check.due("13 undone", 1, hall::moves);
        Check.due("13 savedStates() undone", 1, hall::savedStates);
        hall.goBack(1);
        Check.due("13 the snapshot stays", 0, hall::moves);
        hall.goBack(1);
        Check.due("13 saved though nothing is changed", 3, hall::savedStates);
        Check.go(hall, "d1", "b1");
        hall.goBack(1);
        Check.due("13 the snapshot is not changed", 4, () -> hall.movesFrom(0, 3));
    }

    /** A snapshot is all but the buffer, the slots and the saved states. */
    private static void all() {
        HallGuards hall = Check.game(1, "...K...", "..GT...", "....G..", ".......", "..T.G..", ".......", ".T.....");
        Check.go(hall, "e3", "e2");
        hall.keep(0);
        long before = hall.digest();
        int saved = hall.savedStates();
        Check.go(hall, "b7", "c7");
        hall.turnStrong();
        Check.go(hall, "d1", "a1");
        Check.due("13 over", 3, hall::standing);
        hall.clearBoard();
        hall.put(2, 2, 3);
        hall.goBack(0);
        Check.due("13 saved", saved, hall::savedStates);
        Check.due("13 the digest of then", before, hall::digest);
        Check.due("13 wins(1)", 0, () -> hall.wins(1));
        Check.due("13 takenOf(0)", 1, () -> hall.takenOf(0));
        Check.due("13 allMoves()", 1, hall::allMoves);
        Check.due("13 isStrong()", false, hall::isStrong);
        Check.due("13 turn()", 0, hall::turn);
        Check.due("13 standing()", 1, hall::standing);
    }

    private static void refused() {
        HallGuards hall = new HallGuards();
        for (int slot : new int[] {-1, 2, Integer.MIN_VALUE, Integer.MAX_VALUE}) {
            Check.refused("12 keep(" + slot + ")", ARGUMENT, hall, Check.done(() -> hall.keep(slot)));
            Check.refused("13 goBack(" + slot + ")", ARGUMENT, hall, Check.done(() -> hall.goBack(slot)));
        }
        Check.refused("13 no snapshot", STATE, hall, Check.done(() -> hall.goBack(0)));
        Check.refused("14 no saved state", STATE, hall, Check.done(hall::undo));
        hall.setUp();
        hall.undo();
        Check.refused("14 no saved state any more", STATE, hall, Check.done(hall::undo));
    }

    private static void undo() {
        HallGuards hall = new HallGuards();
        long[] digests = new long[5];
        String[] steps = {"d1c1", "d3e3", "c1b1", "e3g3", "b1c1"};
        for (int index = 0; index < 5; index++) {
            digests[index] = hall.digest();
            Check.go(hall, steps[index].substring(0, 2), steps[index].substring(2));
        }
        Check.due("15 savedStates()", 5, hall::savedStates);
        for (int index = 4; index >= 0; index--) {
            int number = index;
            hall.undo();
            Check.due("14 the latest one", digests[number], hall::digest);
            Check.due("15 it is dropped", number, hall::savedStates);
        }
    }

    private static void oldestDropped() {
        HallGuards hall = new HallGuards();
        hall.clearBoard();
        for (int column = 0; column < 7; column++) {
            int number = column;
            hall.put(1, column, 1);
            Check.due("15 at most 6", Math.min(6, number + 2), hall::savedStates);
        }
        for (int column = 6; column > 0; column--) {
            hall.undo();
            int number = column;
            Check.due("14 pieces", number, () -> hall.piecesOf(0));
        }
        Check.due("15 none is left", 0, hall::savedStates);
        Check.refused("14 the oldest was dropped", STATE, hall, Check.done(hall::undo));
        Check.due("14 pieces", 1, () -> hall.piecesOf(0));
        for (int column = 1; column < 4; column++) {
            hall.put(2, column, 2);
        }
        hall.undo();
        Check.due("14 saved from anew", 2, () -> hall.piecesOf(1));
    }

    private static void everyUndoable() {
        HallGuards hall = new HallGuards();
        hall.keep(0);
        undoable("2 setUp()", hall, hall::setUp);
        undoable("3 clearBoard()", hall, hall::clearBoard);
        undoable("6 turnStrong()", hall, hall::turnStrong);
        undoable("7 move()", hall, () -> Check.go(hall, "d1", "c1"));
        undoable("13 goBack()", hall, Check.done(() -> hall.goBack(0)));
        hall.clearBoard();
        undoable("4 put()", hall, () -> hall.put(1, 1, 3));
        hall.put(1, 1, 3);
        undoable("5 start()", hall, () -> hall.start(0));
        hall.setUp();
        Check.type(hall, "d1c1;d3e3");
        int saved = hall.savedStates();
        Check.due("11 play()", 0, hall::play);
        Check.due("11 play() is saved", saved + 1, hall::savedStates);
        hall.undo();
        Check.due("11 play() undone", 0, hall::moves);
    }

    private static void undoable(String what, HallGuards hall, java.util.concurrent.Callable<?> call) {
        long before = hall.digest();
        int saved = hall.savedStates();
        Check.answerOf(call);
        Check.due(what + " is saved", Math.min(6, saved + 1), hall::savedStates);
        hall.undo();
        Check.due(what + " undone", before, hall::digest);
    }

    private static void notUndoable() {
        HallGuards hall = new HallGuards();
        hall.append('d');
        hall.firstError();
        hall.keep(0);
        hall.clearBuffer();
        hall.bestMove(0);
        hall.wouldTake(3, 1);
        hall.digest();
        Check.due("15 none is saved", 0, hall::savedStates);
        Check.go(hall, "d1", "c1");
        hall.keep(1);
        hall.undo();
        Check.due("14 the slot stays", "done", Check.done(() -> hall.goBack(1)));
        Check.due("14 as it was kept", 1, hall::moves);
    }
}
