/** Promises 7, 25 to 29 and 33: which moves are possible, and how they are told. */
public final class MovesTests {
    private static final String OUT = "IndexOutOfBoundsException";
    private static final String STATE = "IllegalStateException";

    public static void main(String[] args) {
        moveChanges();
        moveRefused();
        reasons();
        reasonsOfStopping();
        outOfRange();
        counts();
        countsOfSquares();
        moveAt();
        Check.end("MovesTests");
    }

    private static void moveChanges() {
        HallGuards hall = new HallGuards();
        Check.due("7 d1 to b1", 0, () -> Check.go(hall, "d1", "b1"));
        Check.due("7 pieces", ".T...../...T.../...G.../TTGKGTT/...G.../...T.../...T...", () -> Check.drawn(hall));
        Check.due("7 turn()", 1, hall::turn);
        Check.due("7 moves()", 1, hall::moves);
        Check.due("7 allMoves()", 1, hall::allMoves);
        Check.due("7 savedStates()", 1, hall::savedStates);
        Check.due("7 c4 to c2", 0, () -> Check.go(hall, "c4", "c2"));
        Check.due("7 turn() again", 0, hall::turn);
        Check.due("7 moves() again", 2, hall::moves);
        Check.due("7 the king moves and takes", 1, () -> {
            HallGuards other = Check.game(1, ".......", "...TG..", "..K....");
            return Check.go(other, "c3", "c2");
        });
        hall.undo();
        Check.due("7 undone", 2, () -> hall.pieceAt(3, 2));
    }

    private static void moveRefused() {
        HallGuards hall = new HallGuards();
        Check.refused("7 from -1", OUT, hall, () -> hall.move(-1, 0));
        Check.refused("7 from 49", OUT, hall, () -> hall.move(49, 0));
        Check.refused("7 to -1", OUT, hall, () -> hall.move(3, -1));
        Check.refused("7 to 49", OUT, hall, () -> hall.move(3, 49));
        Check.refused("7 to far off", OUT, hall, () -> hall.move(3, Integer.MAX_VALUE));
        Check.refused("7 nothing there", STATE, hall, () -> Check.go(hall, "a1", "b1"));
        Check.refused("7 the same square", STATE, hall, () -> Check.go(hall, "d1", "d1"));
        Check.refused("7 not straight", STATE, hall, () -> Check.go(hall, "d1", "e2"));
        Check.refused("7 over a piece", STATE, hall, () -> Check.go(hall, "a4", "c4"));
        Check.refused("7 into a corner", STATE, hall, () -> Check.go(hall, "d1", "a1"));
        Check.refused("7 the other side's piece", STATE, hall, () -> Check.go(hall, "d3", "e3"));
        Check.go(hall, "d1", "c1");
        Check.refused("7 the first side's once more", STATE, hall, () -> Check.go(hall, "c1", "b1"));
        hall.clearBoard();
        Check.refused("7 no game, range first", OUT, hall, () -> hall.move(0, 49));
        hall.put(0, 1, 1);
        Check.refused("7 no game", STATE, hall, () -> Check.go(hall, "b1", "c1"));
        HallGuards over = Check.game(1, ".K...T.");
        Check.go(over, "b1", "a1");
        Check.refused("7 the game is over", STATE, over, () -> Check.go(over, "f1", "e1"));
        Check.refused("7 the game is over, the winner's", STATE, over, () -> Check.go(over, "a1", "b1"));
    }

    private static void reason(String what, int want, HallGuards hall, String from, String to) {
        Check.due(what + ", reasonAgainst", want, () -> hall.reasonAgainst(Check.at(from), Check.at(to)));
        Check.due(what + ", canMove", want == 0, () -> hall.canMove(Check.at(from), Check.at(to)));
    }

    private static void reasons() {
        HallGuards hall = new HallGuards();
        reason("26 nothing there", 1, hall, "a1", "b1");
        reason("26 nothing there, the same square", 1, hall, "a1", "a1");
        reason("26 nothing there, not straight", 1, hall, "a1", "b3");
        reason("26 the same square", 2, hall, "d1", "d1");
        reason("26 not straight", 2, hall, "d1", "e2");
        reason("26 cornerwise into a corner", 2, hall, "f4", "g7");
        reason("26 from the end of a row to the next", 2, hall, "g4", "a5");
        reason("26 on the square to", 3, hall, "d1", "d2");
        reason("26 in the way", 3, hall, "d1", "d5");
        reason("26 on the throne", 3, hall, "d3", "d4");
        reason("26 over the king", 3, hall, "c4", "e4");
        reason("26 into a corner", 4, hall, "d1", "g1");
        reason("26 it can, left", 0, hall, "d1", "b1");
        reason("26 it can, right", 0, hall, "d1", "f1");
        reason("26 it can, up", 0, hall, "a4", "a2");
        reason("26 it can, down", 0, hall, "a4", "a6");
        reason("26 it can, whoever's turn it is", 0, hall, "d3", "g3");
        hall.clearBoard();
        hall.put(1, 1, 2);
        reason("26 it can, without a game", 0, hall, "b2", "b7");
        reason("26 to the edge", 0, hall, "b2", "g2");
    }

    private static void reasonsOfStopping() {
        HallGuards hall = Check.board(".T...G.", ".......", ".......", ".T.....", ".......", ".......", "K......");
        reason("26 a table in a corner", 4, hall, "b1", "a1");
        reason("26 a guard in a corner", 4, hall, "f1", "g1");
        reason("26 something in the way to a corner", 3, hall, "b1", "g1");
        reason("26 a table on the throne", 4, hall, "b4", "d4");
        reason("26 a table over the throne", 0, hall, "b4", "e4");
        reason("26 a table over the throne to the edge", 0, hall, "b4", "g4");
        reason("26 the king in a corner", 0, hall, "a7", "a1");
        reason("26 the king in another", 0, hall, "a7", "g7");
        hall.put(6, 0, 0);
        hall.put(6, 3, 3);
        reason("26 the king on the throne", 0, hall, "d7", "d4");
        reason("26 the king over the throne", 0, hall, "d7", "d1");
        hall.put(6, 3, 0);
        hall.put(3, 3, 3);
        reason("26 over the king on the throne", 3, hall, "b4", "e4");
        reason("26 onto the king on the throne", 3, hall, "b4", "d4");
        hall.put(3, 3, 0);
        hall.put(3, 4, 2);
        reason("26 a guard onto the throne", 4, hall, "e4", "d4");
        reason("26 a guard over the throne", 0, hall, "e4", "c4");
        reason("26 a guard over it onto a table", 3, hall, "e4", "b4");
    }

    private static void outOfRange() {
        HallGuards hall = new HallGuards();
        int[][] wrong = {{-1, 0}, {49, 0}, {0, -1}, {0, 49}, {Integer.MIN_VALUE, 0}, {0, Integer.MAX_VALUE}};
        for (int[] squares : wrong) {
            Check.refused("25 canMove", OUT, hall, () -> hall.canMove(squares[0], squares[1]));
            Check.refused("26 reasonAgainst", OUT, hall, () -> hall.reasonAgainst(squares[0], squares[1]));
        }
        int[][] places = {{-1, 0}, {7, 0}, {0, -1}, {0, 7}};
        for (int[] place : places) {
            Check.refused("27 movesFrom", OUT, hall, () -> hall.movesFrom(place[0], place[1]));
        }
        for (int side : new int[] {-1, 2, Integer.MAX_VALUE}) {
            Check.refused("28 movesByPieces", OUT, hall, () -> hall.movesByPieces(side));
            Check.refused("29 movesBySquares", OUT, hall, () -> hall.movesBySquares(side));
            Check.refused("33 moveAt", OUT, hall, () -> hall.moveAt(side, 0));
        }
    }

    private static void counts() {
        HallGuards hall = new HallGuards();
        Check.due("27 movesFrom(0, 3)", 4, () -> hall.movesFrom(0, 3));
        Check.due("27 movesFrom(1, 3)", 6, () -> hall.movesFrom(1, 3));
        Check.due("27 movesFrom(3, 3)", 0, () -> hall.movesFrom(3, 3));
        Check.due("27 movesFrom(0, 0) of nothing", 0, () -> hall.movesFrom(0, 0));
        hall.clearBoard();
        hall.put(3, 1, 2);
        Check.due("27 over the throne", 11, () -> hall.movesFrom(3, 1));
        hall.put(3, 1, 3);
        Check.due("27 the king", 12, () -> hall.movesFrom(3, 1));
        hall.put(3, 1, 0);
        hall.put(6, 6, 3);
        Check.due("27 the king in a corner", 12, () -> hall.movesFrom(6, 6));
        hall.put(6, 6, 0);
        hall.put(6, 1, 1);
        Check.due("27 a table beside a corner", 6 + 4, () -> hall.movesFrom(6, 1));
    }

    private static void countsOfSquares() {
        HallGuards first = new HallGuards();
        for (int side = 0; side < 2; side++) {
            int number = side;
            Check.due("28 movesByPieces at first", side == 0 ? 40 : 24, () -> first.movesByPieces(number));
            Check.due("29 movesBySquares at first", side == 0 ? 40 : 24, () -> first.movesBySquares(number));
        }
        HallGuards hall = Check.board(".T.....", "K......", ".......", "T......", ".......", "......G", ".......");
        Check.due("28 tables", 10 + 8, () -> hall.movesByPieces(0));
        Check.due("29 tables", 10 + 8, () -> hall.movesBySquares(0));
        Check.due("28 the king and a guard", 8 + 10, () -> hall.movesByPieces(1));
        Check.due("29 the king and a guard", 8 + 10, () -> hall.movesBySquares(1));
        hall.clearBoard();
        Check.due("28 none", 0, () -> hall.movesByPieces(1));
        Check.due("29 none", 0, () -> hall.movesBySquares(1));
    }

    private static void moveAt() {
        HallGuards hall = new HallGuards();
        Check.due("33 the first", 49 * 3 + 1, () -> hall.moveAt(0, 0));
        Check.due("33 the last", 49 * 45 + 47, () -> hall.moveAt(0, 39));
        Check.refused("33 behind the last", OUT, hall, () -> hall.moveAt(0, 40));
        Check.refused("33 place -1", OUT, hall, () -> hall.moveAt(1, -1));
        Check.refused("33 place far off", OUT, hall, () -> hall.moveAt(1, Integer.MAX_VALUE));
        HallGuards alone = Check.board(".......", ".......", ".......", ".......", ".......", "..K....");
        String[] squares = {"c1", "c2", "c3", "c4", "c5", "a6", "b6", "d6", "e6", "f6", "g6", "c7"};
        for (int place = 0; place < squares.length; place++) {
            int number = place;
            Check.due("33 in order", 49 * 37 + Check.at(squares[place]), () -> alone.moveAt(1, number));
        }
        Check.refused("33 no more", OUT, alone, () -> alone.moveAt(1, 12));
        Check.refused("33 a side without pieces", OUT, alone, () -> alone.moveAt(0, 0));
        inOrder(hall, 0);
        inOrder(hall, 1);
    }

    /** Lists by canMove what moveAt must tell. */
    private static void inOrder(HallGuards hall, int side) {
        int place = 0;
        for (int code = 0; code < 49 * 49; code++) {
            int from = code / 49;
            int piece = hall.pieceAt(from / 7, from % 7);
            if (piece != 0 && (piece == 1) == (side == 0) && hall.canMove(from, code % 49)) {
                int number = place;
                Check.due("33 by canMove", code, () -> hall.moveAt(side, number));
                place++;
            }
        }
    }
}
