/** Promises 16 to 24: the board as it is. */
public final class BoardTests {
    private static final String OUT = "IndexOutOfBoundsException";
    private static final String STATE = "IllegalStateException";

    public static void main(String[] args) {
        pieces();
        hostile();
        king();
        firstSquare();
        game();
        refused();
        Check.end("BoardTests");
    }

    private static void pieces() {
        HallGuards hall = new HallGuards();
        Check.due("16 a table", 1, () -> hall.pieceAt(0, 3));
        Check.due("16 a guard", 2, () -> hall.pieceAt(3, 2));
        Check.due("16 the king", 3, () -> hall.pieceAt(3, 3));
        Check.due("16 nothing", 0, () -> hall.pieceAt(6, 6));
        Check.due("17 piecesOf(0)", 8, () -> hall.piecesOf(0));
        Check.due("17 piecesOf(1)", 5, () -> hall.piecesOf(1));
        hall.clearBoard();
        Check.due("17 none of the side 0", 0, () -> hall.piecesOf(0));
        Check.due("17 none of the side 1", 0, () -> hall.piecesOf(1));
        hall.put(2, 5, 3);
        hall.put(6, 1, 1);
        Check.due("17 the king too", 1, () -> hall.piecesOf(1));
        Check.due("17 a table", 1, () -> hall.piecesOf(0));
        Check.due("16 row and column", 3, () -> hall.pieceAt(2, 5));
        Check.due("16 not column and row", 0, () -> hall.pieceAt(5, 2));
        Check.due("18 kingAt()", 19, hall::kingAt);
    }

    private static void hostileTo(HallGuards hall, int row, int column, boolean tables, boolean guards) {
        Check.due("19 isHostile(" + row + ", " + column + ", 0)", tables, () -> hall.isHostile(row, column, 0));
        Check.due("19 isHostile(" + row + ", " + column + ", 1)", guards, () -> hall.isHostile(row, column, 1));
    }

    private static void hostile() {
        HallGuards hall = new HallGuards();
        hostileTo(hall, 0, 0, true, true);
        hostileTo(hall, 0, 6, true, true);
        hostileTo(hall, 6, 0, true, true);
        hostileTo(hall, 6, 6, true, true);
        hostileTo(hall, 0, 3, false, true);
        hostileTo(hall, 3, 2, true, false);
        hostileTo(hall, 3, 3, true, false);
        hostileTo(hall, 1, 1, false, false);
        hall.clearBoard();
        hostileTo(hall, 3, 3, true, true);
        hostileTo(hall, 3, 2, false, false);
        hall.put(6, 6, 3);
        hostileTo(hall, 6, 6, true, true);
        hall.put(6, 6, 0);
        hall.put(3, 3, 3);
        hostileTo(hall, 3, 3, true, false);
    }

    private static void king() {
        HallGuards hall = new HallGuards();
        Check.due("18 at first", 24, hall::kingAt);
        Check.due("20 at first", false, hall::isStrong);
        hall.turnStrong();
        Check.due("20 strong", true, hall::isStrong);
        hall.clearBoard();
        Check.due("18 none", "throws." + STATE, hall::kingAt);
        hall.put(6, 6, 3);
        Check.due("18 in a corner", 48, hall::kingAt);
        hall.put(6, 6, 0);
        hall.put(0, 0, 3);
        Check.due("18 in the first corner", 0, hall::kingAt);
        HallGuards other = Check.game(1, ".K.....", "T......");
        Check.go(other, "b1", "b4");
        Check.due("18 moved", 22, other::kingAt);
        other.undo();
        Check.due("18 undone", 1, other::kingAt);
    }

    /** The square 0 counts like the others. */
    private static void firstSquare() {
        HallGuards hall = Check.board("K......", ".......", ".......", ".....T.");
        Check.due("16 pieceAt(0, 0)", 3, () -> hall.pieceAt(0, 0));
        Check.due("17 piecesOf(1)", 1, () -> hall.piecesOf(1));
        Check.due("27 movesFrom(0, 0)", 12, () -> hall.movesFrom(0, 0));
        Check.due("28 movesByPieces(1)", 12, () -> hall.movesByPieces(1));
        Check.due("29 movesBySquares(1)", 12, () -> hall.movesBySquares(1));
        Check.due("31 the king can move", false, () -> hall.wouldWin(26, 25));
        Check.due("33 moveAt(1, 0)", 1, () -> hall.moveAt(1, 0));
        Check.due("40 bestMove(1)", 6, () -> hall.bestMove(1));
    }

    private static void game() {
        HallGuards hall = new HallGuards();
        Check.due("21 it goes on", 1, hall::standing);
        Check.due("22 the side 0", 0, hall::turn);
        Check.due("23 none", 0, hall::moves);
        Check.due("24 once", 1, hall::timesSeen);
        Check.go(hall, "d1", "c1");
        Check.due("22 the side 1", 1, hall::turn);
        Check.due("23 one", 1, hall::moves);
        hall.clearBoard();
        Check.due("21 none was begun", 0, hall::standing);
        Check.refused("22 turn() without a game", STATE, hall, hall::turn);
        Check.refused("24 timesSeen() without a game", STATE, hall, hall::timesSeen);
        hall.undo();
        Check.due("23 undone", 1, hall::moves);
        Check.due("21 undone", 1, hall::standing);
    }

    private static void refused() {
        HallGuards hall = new HallGuards();
        int[][] places = {{-1, 0}, {7, 0}, {0, -1}, {0, 7}, {Integer.MIN_VALUE, 3}, {3, Integer.MAX_VALUE}};
        for (int[] place : places) {
            Check.refused("16 pieceAt", OUT, hall, () -> hall.pieceAt(place[0], place[1]));
            Check.refused("19 isHostile", OUT, hall, () -> hall.isHostile(place[0], place[1], 1));
        }
        for (int side : new int[] {-1, 2, Integer.MIN_VALUE}) {
            Check.refused("17 piecesOf", OUT, hall, () -> hall.piecesOf(side));
            Check.refused("19 isHostile, side", OUT, hall, () -> hall.isHostile(0, 0, side));
        }
        hall.clearBoard();
        Check.refused("18 kingAt() of none", STATE, hall, hall::kingAt);
    }
}
