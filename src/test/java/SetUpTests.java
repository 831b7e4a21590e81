/** Promises 1 to 6: how boards and games begin. */
public final class SetUpTests {
    private static final String AT_FIRST = "...T.../...T.../...G.../TTGKGTT/...G.../...T.../...T...";
    private static final String OUT = "IndexOutOfBoundsException";
    private static final String ARGUMENT = "IllegalArgumentException";
    private static final String STATE = "IllegalStateException";

    public static void main(String[] args) {
        newObject();
        setUp();
        clearBoard();
        put();
        putRefused();
        start();
        startRefused();
        turnStrong();
        Check.end("SetUpTests");
    }

    private static void newObject() {
        HallGuards hall = new HallGuards();
        Check.due("1 pieces", AT_FIRST, () -> Check.drawn(hall));
        Check.due("1 standing()", 1, hall::standing);
        Check.due("1 turn()", 0, hall::turn);
        Check.due("1 moves()", 0, hall::moves);
        Check.due("1 timesSeen()", 1, hall::timesSeen);
        Check.due("1 isStrong()", false, hall::isStrong);
        Check.due("1 savedStates()", 0, hall::savedStates);
        Check.due("1 clearBuffer()", 0, hall::clearBuffer);
        Check.due("1 goBack(0)", "throws." + STATE, Check.done(() -> hall.goBack(0)));
        Check.due("1 goBack(1)", "throws." + STATE, Check.done(() -> hall.goBack(1)));
        Check.due("1 undo()", "throws." + STATE, Check.done(hall::undo));
    }

    private static void setUp() {
        HallGuards hall = new HallGuards();
        Check.go(hall, "d1", "c1");
        hall.turnStrong();
        Check.type(hall, "d1");
        Check.due("2 setUp()", 13, hall::setUp);
        Check.due("2 pieces", AT_FIRST, () -> Check.drawn(hall));
        Check.due("2 standing()", 1, hall::standing);
        Check.due("2 turn()", 0, hall::turn);
        Check.due("2 moves()", 0, hall::moves);
        Check.due("2 timesSeen()", 1, hall::timesSeen);
        Check.due("2 allMoves() goes on", 1, hall::allMoves);
        Check.due("2 isStrong() stays", true, hall::isStrong);
        Check.due("2 savedStates()", 3, hall::savedStates);
        Check.due("2 the buffer stays", 2, hall::clearBuffer);
        Check.due("2 setUp() again", 13, hall::setUp);
        Check.due("2 saved though nothing is changed", 4, hall::savedStates);
        hall.undo();
        hall.undo();
        Check.due("2 undone, moves()", 1, hall::moves);
        Check.due("2 undone, turn()", 1, hall::turn);
    }

    private static void clearBoard() {
        HallGuards hall = new HallGuards();
        Check.go(hall, "d1", "c1");
        Check.due("3 clearBoard()", 13, hall::clearBoard);
        Check.due("3 standing()", 0, hall::standing);
        Check.due("3 pieces", "......./......./......./......./......./......./.......", () -> Check.drawn(hall));
        Check.due("3 turn()", "throws." + STATE, hall::turn);
        Check.due("3 timesSeen()", "throws." + STATE, hall::timesSeen);
        Check.due("3 moves()", 0, hall::moves);
        Check.due("3 allMoves()", 1, hall::allMoves);
        Check.due("3 clearBoard() of an empty board", 0, hall::clearBoard);
        Check.due("3 savedStates()", 3, hall::savedStates);
        hall.put(1, 1, 2);
        Check.due("3 clearBoard() without a game", 1, hall::clearBoard);
        hall.undo();
        Check.due("3 undone", 2, () -> hall.pieceAt(1, 1));
    }

    private static void put() {
        HallGuards hall = new HallGuards();
        hall.clearBoard();
        Check.due("4 put a table", 0, () -> hall.put(1, 2, 1));
        Check.due("4 put a guard in its place", 1, () -> hall.put(1, 2, 2));
        Check.due("4 put the king in its place", 2, () -> hall.put(1, 2, 3));
        Check.due("4 the king in place of himself", 3, () -> hall.put(1, 2, 3));
        Check.due("4 kingAt()", 9, hall::kingAt);
        Check.due("4 taken away", 3, () -> hall.put(1, 2, 0));
        Check.due("4 kingAt() of none", "throws." + STATE, hall::kingAt);
        Check.due("4 nothing in place of nothing", 0, () -> hall.put(1, 2, 0));
        Check.due("4 nothing in a corner", 0, () -> hall.put(6, 6, 0));
        Check.due("4 nothing on the throne", 0, () -> hall.put(3, 3, 0));
        Check.due("4 the king in a corner", 0, () -> hall.put(0, 6, 3));
        Check.due("4 the king replaced", 3, () -> hall.put(0, 6, 0));
        Check.due("4 the king on the throne", 0, () -> hall.put(3, 3, 3));
        Check.due("4 a table beside a corner", 0, () -> hall.put(6, 5, 1));
        Check.due("4 saved", 6, hall::savedStates);
        hall.undo();
        Check.due("4 undone", 0, () -> hall.pieceAt(6, 5));
        Check.due("4 the last square", 0, () -> hall.put(5, 6, 2));
        Check.due("4 there it is", 2, () -> hall.pieceAt(5, 6));
    }

    private static void putRefused() {
        HallGuards hall = new HallGuards();
        Check.refused("4 while a game goes on", STATE, hall, () -> hall.put(1, 1, 1));
        hall.clearBoard();
        hall.put(2, 2, 3);
        Check.refused("4 row -1", OUT, hall, () -> hall.put(-1, 0, 1));
        Check.refused("4 row 7", OUT, hall, () -> hall.put(7, 0, 1));
        Check.refused("4 column -1", OUT, hall, () -> hall.put(0, -1, 1));
        Check.refused("4 column 7", OUT, hall, () -> hall.put(0, 7, 1));
        Check.refused("4 square before piece", OUT, hall, () -> hall.put(7, 7, 9));
        Check.refused("4 piece -1", ARGUMENT, hall, () -> hall.put(0, 1, -1));
        Check.refused("4 piece 4", ARGUMENT, hall, () -> hall.put(0, 1, 4));
        Check.refused("4 piece before state", ARGUMENT, hall, () -> hall.put(0, 0, 4));
        Check.refused("4 two kings", STATE, hall, () -> hall.put(2, 3, 3));
        HallGuards cornered = Check.board("K......");
        Check.refused("4 two kings, one in the first corner", STATE, cornered, () -> cornered.put(2, 3, 3));
        for (int corner : new int[] {0, 6, 42, 48}) {
            Check.refused("4 a table in a corner", STATE, hall, () -> hall.put(corner / 7, corner % 7, 1));
            Check.refused("4 a guard in a corner", STATE, hall, () -> hall.put(corner / 7, corner % 7, 2));
        }
        Check.refused("4 a table on the throne", STATE, hall, () -> hall.put(3, 3, 1));
        Check.refused("4 a guard on the throne", STATE, hall, () -> hall.put(3, 3, 2));
        hall.start(1);
        Check.refused("4 behind start", STATE, hall, () -> hall.put(5, 5, 0));
        Check.go(hall, "c3", "c1");
        Check.refused("4 behind a move", STATE, hall, () -> hall.put(5, 5, 0));
        HallGuards over = Check.game(1, ".K.....");
        Check.go(over, "b1", "a1");
        Check.due("4 the game is over", 3, over::standing);
        Check.refused("4 behind a game that is over", STATE, over, () -> over.put(5, 5, 1));
    }

    private static void start() {
        HallGuards hall = Check.board(".K.....", "T......");
        Check.due("5 start(1)", 12, () -> hall.start(1));
        Check.due("5 standing()", 1, hall::standing);
        Check.due("5 turn()", 1, hall::turn);
        Check.due("5 timesSeen()", 1, hall::timesSeen);
        Check.due("5 savedStates()", 4, hall::savedStates);
        hall.undo();
        Check.due("5 undone", 0, hall::standing);
        Check.due("5 start(0)", 10, () -> hall.start(0));
        Check.due("5 turn()", 0, hall::turn);
        HallGuards stuck = Check.board("..TKT..", "...T...");
        Check.due("5 start of a side without a move", 0, () -> stuck.start(1));
        Check.due("5 it goes on", 1, stuck::standing);
        Check.due("5 wins(0)", 0, () -> stuck.wins(0));
        Check.refused("5 no move is possible", STATE, stuck, () -> stuck.move(3, 10));
        Check.refused("5 nor of the other side", STATE, stuck, () -> stuck.move(2, 1));
    }

    private static void startRefused() {
        HallGuards hall = new HallGuards();
        Check.refused("5 side -1", OUT, hall, () -> hall.start(-1));
        Check.refused("5 side 2", OUT, hall, () -> hall.start(2));
        Check.refused("5 while a game goes on", STATE, hall, () -> hall.start(0));
        hall.clearBoard();
        Check.refused("5 no king", STATE, hall, () -> hall.start(0));
        for (int corner : new int[] {0, 6, 42, 48}) {
            hall.put(corner / 7, corner % 7, 3);
            Check.refused("5 the king in a corner", STATE, hall, () -> hall.start(1));
            hall.put(corner / 7, corner % 7, 0);
        }
        HallGuards over = Check.game(1, ".K.....");
        Check.go(over, "b1", "a1");
        Check.refused("5 behind a game that is over", STATE, over, () -> over.start(1));
    }

    private static void turnStrong() {
        HallGuards hall = new HallGuards();
        Check.due("6 turnStrong()", true, hall::turnStrong);
        Check.due("6 isStrong()", true, hall::isStrong);
        Check.due("6 turnStrong() again", false, hall::turnStrong);
        Check.due("6 isStrong() again", false, hall::isStrong);
        Check.due("6 savedStates()", 2, hall::savedStates);
        hall.undo();
        Check.due("6 undone", true, hall::isStrong);
        hall.clearBoard();
        Check.due("6 kept by clearBoard()", true, hall::isStrong);
        Check.due("6 without a game", false, hall::turnStrong);
    }
}
