/** The sentences of the promises 25 to 33. */
final class MoveSentences extends Sentences {
    private static final String[] CANNOT = {"a1b1", "d1d1", "d1e2", "d1d2", "d1d5", "d1a1", "d1g1", "c4d4", "g4a5"};

    private MoveSentences() {
    }

    static void all() {
        canMove();
        reasonAgainst();
        movesFrom();
        movesByPieces();
        movesBySquares();
        wouldTake();
        wouldWin();
        winningMoves();
        moveAt();
    }

    private static void can(String what, boolean want, HallGuards hall, String move) {
        due(what, want, () -> hall.canMove(from(move), to(move)));
    }

    private static void squaresRefused(HallGuards hall, NumberCall fromCall, NumberCall toCall) {
        says("- `from`: 0 to 48");
        range(0, 48, OUT, hall, fromCall);
        says("- `to`: 0 to 48, likewise");
        range(0, 48, OUT, hall, toCall);
        says("Throws `IndexOutOfBoundsException`");
        refused("from -1", OUT, hall, () -> fromCall.with(-1));
        refused("from 49", OUT, hall, () -> fromCall.with(49));
        refused("to -1", OUT, hall, () -> toCall.with(-1));
        refused("to 49", OUT, hall, () -> toCall.with(49));
    }

    private static void sideRefused(HallGuards hall, NumberCall call) {
        says("- `side`: 0 or 1");
        range(0, 1, OUT, hall, call);
        says("Throws `IndexOutOfBoundsException`");
        refused("side -1", OUT, hall, () -> call.with(-1));
        refused("side 2", OUT, hall, () -> call.with(2));
    }

    private static void canMove() {
        at("Promise 25");
        says("Tells whether a piece could be moved so, whoever's turn it is");
        HallGuards hall = new HallGuards();
        can("the side 0", true, hall, "d1c1");
        can("the side 1", true, hall, "d3e3");
        HallGuards idle = board("/T...K");
        can("without a game", true, idle, "a2b2");
        HallGuards over = game(1, ".K/..T");
        go(over, "b1a1");
        can("behind a game", true, over, "a1b1");
        can("behind a game, the loser", true, over, "c2d2");
        squaresRefused(hall, from -> hall.canMove(from, 1), to -> hall.canMove(3, to));
        says("Returns true if so.");
        for (String move : CANNOT) {
            can(move, false, hall, move);
        }
        can("to the edge", true, hall, "d3g3");
    }

    private static void reason(String what, int want, HallGuards hall, String move) {
        due(what + ", " + move, want, () -> hall.reasonAgainst(from(move), to(move)));
        can(what + ", canMove", want == 0, hall, move);
    }

    private static void reasonAgainst() {
        at("Promise 26");
        says("Tells why a piece cannot be moved so");
        HallGuards hall = new HallGuards();
        reason("the side 0", 4, hall, "d1a1");
        reason("the side 1", 3, hall, "d3d2");
        reason("it can, though it is not its turn", 0, hall, "d3e3");
        squaresRefused(hall, from -> hall.reasonAgainst(from, 1), to -> hall.reasonAgainst(3, to));
        says("Returns 1 nothing is on the square from");
        reason("nothing there", 1, hall, "a1b1");
        reason("nothing there, the same square", 1, hall, "a1a1");
        reason("nothing there, not straight", 1, hall, "a1b2");
        reason("nothing there, something in the way", 1, hall, "a2g2");
        reason("nothing there, into a corner", 1, hall, "b1a1");
        reason("the same square", 2, hall, "d1d1");
        reason("the throne itself", 2, hall, "d4d4");
        reason("not straight", 2, hall, "d1e2");
        reason("not straight, onto a piece", 2, hall, "d1c4");
        reason("not straight, into a corner", 2, hall, "d2a1");
        reason("in the next row", 2, hall, "g4a5");
        reason("on the square to", 3, hall, "d1d2");
        reason("in the way", 3, hall, "a4c4");
        reason("in the way, and the throne", 3, hall, "d2d4");
        reason("in the way, and beyond it", 3, hall, "d1d5");
        HallGuards other = board(".TT/...K");
        reason("in the way to a corner", 3, other, "c1a1");
        reason("a corner", 4, other, "c1g1");
        reason("a table on the throne", 4, board("///T"), "a4d4");
        reason("a guard on the throne", 4, board("...G"), "d1d4");
        reason("a guard in a corner", 4, board("...G"), "d1a1");
        reason("over the throne", 0, board("...G"), "d1d7");
        reason("the king on the throne", 0, board("...K"), "d1d4");
        reason("the king in a corner", 0, board("...K"), "d1g1");
    }

    private static void movesFrom() {
        at("Promise 27");
        says("Returns to how many squares the piece on a square could be moved.");
        HallGuards hall = new HallGuards();
        due("the first table", 4, () -> hall.movesFrom(0, 3));
        due("the second", 6, () -> hall.movesFrom(1, 3));
        due("not its turn", 6, () -> hall.movesFrom(2, 3));
        says("- `row`: 0 to 6");
        range(0, 6, OUT, hall, row -> hall.movesFrom(row, 3));
        says("- `column`: 0 to 6");
        range(0, 6, OUT, hall, column -> hall.movesFrom(3, column));
        says("Returns the squares, 0 if there is none.");
        due("no piece", 0, () -> hall.movesFrom(0, 0));
        due("no piece on the empty throne", 0, () -> cleared().movesFrom(3, 3));
        due("no square", 0, () -> hall.movesFrom(3, 3));
        due("one", 1, () -> board("KT//T").movesFrom(0, 0));
        due("the king", 12, () -> board("/..K").movesFrom(1, 2));
        due("the king in the last corner", 12, () -> board("//////......K").movesFrom(6, 6));
        due("a table", 12, () -> board("/..T").movesFrom(1, 2));
        due("a table, but for corners", 10, () -> board("..T").movesFrom(0, 2));
        due("a guard, but for corners and the throne", 9, () -> board("///G").movesFrom(3, 0));
        due("a guard, but for the throne", 11, () -> board("/...G").movesFrom(1, 3));
        says("Throws `IndexOutOfBoundsException`");
        refused("row 7", OUT, hall, () -> hall.movesFrom(7, 0));
        refused("row -1", OUT, hall, () -> hall.movesFrom(-1, 0));
        refused("column 7", OUT, hall, () -> hall.movesFrom(0, 7));
        refused("column -1", OUT, hall, () -> hall.movesFrom(1, -1));
    }

    /** How many moves the sides have; both ways of counting are asked. */
    private static void have(String rows, int tables, int guards) {
        HallGuards hall = board(rows);
        due("the tables by pieces, " + rows, tables, () -> hall.movesByPieces(0));
        due("the tables by squares, " + rows, tables, () -> hall.movesBySquares(0));
        due("the guards by pieces, " + rows, guards, () -> hall.movesByPieces(1));
        due("the guards by squares, " + rows, guards, () -> hall.movesBySquares(1));
    }

    private static void movesByPieces() {
        at("Promise 28");
        says("Tells how many moves a side has, piece by piece.");
        HallGuards hall = new HallGuards();
        due("the side 0", 40, () -> hall.movesByPieces(0));
        due("the side 1", 24, () -> hall.movesByPieces(1));
        sideRefused(hall, hall::movesByPieces);
        says("Returns the moves.");
        have("", 0, 0);
        have("K", 0, 12);
        have("KT//T", 20, 1);
        have("/T..K", 6, 11);
        have("..TKT/...T", 24, 0);
    }

    private static void movesBySquares() {
        at("Promise 29");
        says("Tells how many moves a side has, square by square");
        have("..T/T", 20, 0);
        have("/T.G", 5, 11);
        HallGuards hall = new HallGuards();
        sideRefused(hall, hall::movesBySquares);
        says("Returns the moves, as many as by movesByPieces().");
        have("", 0, 0);
        have("//////......K", 0, 12);
        have("...K", 0, 12);
        have("..T", 10, 0);
        have("///G", 0, 9);
        have("///...K", 0, 12);
        have("///T.K", 5, 11);
        have("///T.....G", 8, 8);
    }

    private static void wouldTake() {
        at("Promise 30");
        says("Tells how many pieces a move would take.");
        due("none", 0, () -> board("/T..G").wouldTake(7, 9));
        due("one", 1, () -> board("/T..GT").wouldTake(7, 9));
        due("two", 2, () -> board("//.TG.GT////...T").wouldTake(45, 17));
        due("three", 3, () -> board("...T/...G/.TG.GT////...T").wouldTake(45, 17));
        due("whoever's turn it is", 1, () -> game(1, "/T..GT/////.K").wouldTake(7, 9));
        HallGuards hall = new HallGuards();
        squaresRefused(hall, from -> hall.wouldTake(from, 1), to -> hall.wouldTake(3, to));
        says("Returns the pieces, the king too.");
        due("the king", 1, () -> board("/T..KT").wouldTake(7, 9));
        due("the king and a guard", 2, () -> board("//.TG.KT////...T").wouldTake(45, 17));
        HallGuards strong = board("/T..KT");
        strong.turnStrong();
        due("not the strong king", 0, () -> strong.wouldTake(7, 9));
        says("Throws `IllegalStateException`");
        for (String move : CANNOT) {
            refused(move, STATE, hall, () -> hall.wouldTake(from(move), to(move)));
        }
    }

    private static void wins(String what, boolean want, String rows, String move) {
        HallGuards hall = board(rows);
        due(what, want, () -> hall.wouldWin(from(move), to(move)));
    }

    private static void wouldWin() {
        at("Promise 31");
        says("Tells whether a move would win the game for the side of the piece.");
        due("whoever's turn it is", true, () -> game(1, "/T..KT").wouldWin(7, 9));
        due("at first", false, () -> new HallGuards().wouldWin(3, 1));
        HallGuards hall = new HallGuards();
        squaresRefused(hall, from -> hall.wouldWin(from, 1), to -> hall.wouldWin(3, to));
        says("Returns true if it takes the king, or brings him to a corner");
        wins("it takes the king", true, "/T..KT", "a2c2");
        wins("it takes the king, and a guard has moves", true, "/T..KT/////.G", "a2c2");
        wins("it takes a guard", false, "/T..GT/////.K", "a2c2");
        wins("it takes a guard, and there is no king", false, "/T..GT/////.G", "a2c2");
        wins("it takes nothing, and there is no king", false, "/T...T/////.G", "a2c2");
        winsInCorners();
        wins("the other side has no piece", true, "...K", "d1d2");
        wins("the last table is taken", true, "/..GT/....G//.K", "e3e2");
        wins("one before the last", false, "/..GT/....G//.K...T", "e3e2");
        wins("the last table is shut in", true, ".TG/....G/////...K", "e2b2");
        wins("it has a move yet", false, ".TG/....G/////...K", "e2d2");
        wins("another table has a move", false, ".TG/....G/////...K.T", "e2b2");
        HallGuards strong = board(".T.KT/...T");
        strong.turnStrong();
        due("the strong king is shut in", true, () -> strong.wouldWin(1, 2));
        strong.put(5, 1, 2);
        due("a guard has a move", false, () -> strong.wouldWin(1, 2));
        says("Throws `IllegalStateException`");
        for (String move : CANNOT) {
            refused(move, STATE, hall, () -> hall.wouldWin(from(move), to(move)));
        }
    }

    private static void winsInCorners() {
        for (int corner : CORNERS) {
            HallGuards edge = board("/.T");
            int king = 7 * (corner / 7) + 3;
            edge.put(corner / 7, 3, 3);
            due("to the corner " + corner, true, () -> edge.wouldWin(king, corner));
            due("beside it", false, () -> edge.wouldWin(king, corner % 7 == 0 ? corner + 1 : corner - 1));
        }
        wins("from a corner to another", true, "K/..T", "a1g1");
        wins("out of a corner", false, "K/..T", "a1d1");
        wins("a guard, with the king in a corner", false, "K/..T/.G", "b3c3");
        wins("a table, with the king in a corner", false, "K///.....T", "f4e4");
    }

    private static void winningMoves() {
        at("Promise 32");
        says("Returns how many moves of a side would win.");
        due("to two corners", 2, () -> board("...K/.T").winningMoves(1));
        due("from a corner to two", 2, () -> board("K/..T").winningMoves(1));
        due("taking the king", 1, () -> board("/T..KT").winningMoves(0));
        HallGuards hall = new HallGuards();
        sideRefused(hall, hall::winningMoves);
        says("Returns the moves.");
        due("none of the side 0", 0, () -> hall.winningMoves(0));
        due("none of the side 1", 0, () -> hall.winningMoves(1));
        due("none without pieces", 0, () -> cleared().winningMoves(1));
        due("all, against nobody", 12, () -> board("/..T").winningMoves(0));
        due("whoever's turn it is", 2, () -> game(0, "...K/.T").winningMoves(1));
    }

    private static void inOrder(String what, String rows, int side, String moves) {
        HallGuards hall = board(rows);
        String[] names = moves.isEmpty() ? new String[0] : moves.split(" ");
        for (int place = 0; place < names.length; place++) {
            int number = place;
            due(what + ", " + names[place], code(names[place]), () -> hall.moveAt(side, number));
        }
        refused(what + ", no more", OUT, hall, () -> hall.moveAt(side, names.length));
    }

    private static void moveAt() {
        at("Promise 33");
        says("Returns a move of a side, by the squares from, then the squares to.");
        inOrder("a table", "/..T", 0, "c2c1 c2a2 c2b2 c2d2 c2e2 c2f2 c2g2 c2c3 c2c4 c2c5 c2c6 c2c7");
        inOrder("guards", "..G/G", 1, "c1b1 c1d1 c1e1 c1f1 c1c2 c1c3 c1c4 c1c5 c1c6 c1c7"
                + " a2b2 a2c2 a2d2 a2e2 a2f2 a2g2 a2a3 a2a4 a2a5 a2a6");
        inOrder("the king in a corner", "KT//T", 1, "a1a2");
        inOrder("a table that is shut in", ".TG/.G", 0, "");
        inOrder("no table", "K", 0, "");
        allInOrder("...T/...T/...G/TTGKGTT/...G/...T/...T");
        allInOrder(".T.T/T.T.T.T/.T.T.T/T.G.K.T/.T.T.T/T.T.T.T/.T.T");
        allInOrder("/.T...G//...K//.G...T");
        HallGuards hall = new HallGuards();
        says("- `side`: 0 or 1");
        range(0, 1, OUT, hall, side -> hall.moveAt(side, 0));
        says("- `place`: 0 for the first one");
        range(0, 39, OUT, hall, place -> hall.moveAt(0, place));
        says("Returns 49 times the square from, and the square to, together.");
        due("the first", 148, () -> hall.moveAt(0, 0));
        due("the last", 2252, () -> hall.moveAt(0, 39));
        due("the last of the side 1", 49 * 31 + 34, () -> hall.moveAt(1, 23));
        says("Throws `IndexOutOfBoundsException`");
        refused("side -1", OUT, hall, () -> hall.moveAt(-1, 0));
        refused("side 2", OUT, hall, () -> hall.moveAt(2, 0));
        refused("behind the last", OUT, hall, () -> hall.moveAt(0, 40));
        refused("behind the last of the side 1", OUT, hall, () -> hall.moveAt(1, 24));
        refused("place -1", OUT, hall, () -> hall.moveAt(0, -1));
        HallGuards empty = cleared();
        refused("no move at all", OUT, empty, () -> empty.moveAt(0, 0));
    }

    /** All moves, as canMove() tells them one after the other. */
    private static void allInOrder(String rows) {
        HallGuards hall = board(rows);
        int[] places = {0, 0};
        for (int code = 0; code < 2401; code++) {
            int piece = hall.pieceAt(code / 49 / 7, code / 49 % 7);
            if (piece > 0 && hall.canMove(code / 49, code % 49)) {
                int side = piece == 1 ? 0 : 1;
                int place = places[side]++;
                due(rows + ", side " + side + ", place " + place, code, () -> hall.moveAt(side, place));
            }
        }
        due(rows + ", tables", places[0], () -> hall.movesByPieces(0));
        due(rows + ", guards", places[1], () -> hall.movesByPieces(1));
    }
}
