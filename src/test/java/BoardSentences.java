/** The sentences of the promises 16 to 24. */
final class BoardSentences extends Sentences {
    private BoardSentences() {
    }

    static void all() {
        pieceAt();
        piecesOf();
        kingAt();
        isHostile();
        isStrong();
        standing();
        turn();
        moves();
        timesSeen();
    }

    private static void pieceAt() {
        at("Promise 16");
        says("Returns what is on a square.");
        HallGuards hall = board("/T.G..K");
        due("row before column", 1, () -> hall.pieceAt(1, 0));
        due("column before row", 0, () -> hall.pieceAt(0, 1));
        due("behind a move", 1, () -> {
            HallGuards moved = new HallGuards();
            go(moved, "d1b1");
            return moved.pieceAt(0, 1) - moved.pieceAt(0, 3);
        });
        says("- `row`: 0 to 6");
        range(0, 6, OUT, hall, row -> hall.pieceAt(row, 3));
        says("- `column`: 0 to 6");
        range(0, 6, OUT, hall, column -> hall.pieceAt(3, column));
        says("Returns 0 nothing, 1 a table, 2 a guard, 3 the king.");
        due("nothing", 0, () -> hall.pieceAt(1, 1));
        due("a table", 1, () -> hall.pieceAt(1, 0));
        due("a guard", 2, () -> hall.pieceAt(1, 2));
        due("the king", 3, () -> hall.pieceAt(1, 5));
        due("an empty corner", 0, () -> hall.pieceAt(6, 6));
        due("the empty throne", 0, () -> hall.pieceAt(3, 3));
        says("Throws `IndexOutOfBoundsException`");
        refused("row 7", OUT, hall, () -> hall.pieceAt(7, 0));
        refused("row -1", OUT, hall, () -> hall.pieceAt(-1, 6));
        refused("column 7", OUT, hall, () -> hall.pieceAt(0, 7));
        refused("column -1", OUT, hall, () -> hall.pieceAt(1, -1));
    }

    private static void piecesOf() {
        at("Promise 17");
        says("Returns how many pieces a side has, the king too.");
        HallGuards hall = new HallGuards();
        due("the side 0", 8, () -> hall.piecesOf(0));
        due("the side 1, the king too", 5, () -> hall.piecesOf(1));
        goAll(hall, "d1b1;c4c1");
        due("a table less", 7, () -> hall.piecesOf(0));
        says("- `side`: 0 or 1");
        range(0, 1, OUT, hall, hall::piecesOf);
        says("Returns the pieces.");
        due("the king alone", 1, () -> board("K").piecesOf(1));
        due("none", 0, () -> board("K").piecesOf(0));
        due("none at all", 0, () -> cleared().piecesOf(1));
        due("as many as can be", 44, () -> board(".TTTTT./TTTTTTT/TTTTTTT/TTT.TTT/TTTTTTT/TTTTTTT/.TTTTT.").piecesOf(0));
        says("Throws `IndexOutOfBoundsException`");
        refused("-1", OUT, hall, () -> hall.piecesOf(-1));
        refused("2", OUT, hall, () -> hall.piecesOf(2));
    }

    private static void kingAt() {
        at("Promise 18");
        says("Returns the square of the king.");
        HallGuards hall = new HallGuards();
        due("on the throne", 24, hall::kingAt);
        HallGuards moved = game(1, "/T...K");
        go(moved, "e2e6");
        due("behind a move", 39, moved::kingAt);
        moved.undo();
        due("undone", 11, moved::kingAt);
        says("Returns 7 times its row");
        due("the first square", 0, () -> board("K").kingAt());
        due("the last square", 48, () -> board("//////......K").kingAt());
        due("row and column", 29, () -> board("////.K").kingAt());
        says("Throws `IllegalStateException`");
        hall.clearBoard();
        refused("cleared", STATE, hall, hall::kingAt);
        HallGuards away = board("K");
        away.put(0, 0, 0);
        refused("taken away", STATE, away, away::kingAt);
        HallGuards taken = game(0, "/T..KT");
        go(taken, "a2c2");
        refused("taken", STATE, taken, taken::kingAt);
    }

    private static void isHostile() {
        at("Promise 19");
        says("Tells whether a square is hostile to a side.");
        HallGuards hall = new HallGuards();
        due("a table to the guards", true, () -> hall.isHostile(0, 3, 1));
        due("a table to the tables", false, () -> hall.isHostile(0, 3, 0));
        due("a guard to the tables", true, () -> hall.isHostile(2, 3, 0));
        due("a guard to the guards", false, () -> hall.isHostile(2, 3, 1));
        says("- `row`: 0 to 6");
        range(0, 6, OUT, hall, row -> hall.isHostile(row, 3, 0));
        says("- `column`: 0 to 6");
        range(0, 6, OUT, hall, column -> hall.isHostile(3, column, 1));
        says("- `side`: 0 or 1");
        range(0, 1, OUT, hall, side -> hall.isHostile(3, 3, side));
        says("Returns true if so.");
        due("the king's throne to the tables", true, () -> hall.isHostile(3, 3, 0));
        due("the king's throne to the guards", false, () -> hall.isHostile(3, 3, 1));
        due("the empty throne to the tables", true, () -> cleared().isHostile(3, 3, 0));
        due("the empty throne to the guards", true, () -> cleared().isHostile(3, 3, 1));
        due("a corner with the king to the guards", true, () -> board("K").isHostile(0, 0, 1));
        due("nothing", false, () -> hall.isHostile(1, 1, 0));
        says("Throws `IndexOutOfBoundsException` if there is no such square or side");
        refused("row 7", OUT, hall, () -> hall.isHostile(7, 0, 0));
        refused("column -1", OUT, hall, () -> hall.isHostile(1, -1, 0));
        refused("side 2", OUT, hall, () -> hall.isHostile(0, 0, 2));
        refused("side -1", OUT, hall, () -> hall.isHostile(0, 0, -1));
    }

    private static void isStrong() {
        at("Promise 20");
        says("Tells whether the king can be taken by four alone.");
        HallGuards hall = new HallGuards();
        due("at first", false, hall::isStrong);
        hall.turnStrong();
        hall.setUp();
        due("set up", true, hall::isStrong);
        hall.clearBoard();
        due("without a king", true, hall::isStrong);
        says("Returns true if so.");
        hall.turnStrong();
        due("not so", false, hall::isStrong);
        hall.undo();
        due("so", true, hall::isStrong);
    }

    private static void standing() {
        at("Promise 21");
        says("Returns how the game stands.");
        HallGuards hall = new HallGuards();
        due("a new object", 1, hall::standing);
        hall.clearBoard();
        due("cleared", 0, hall::standing);
        hall.put(0, 1, 3);
        due("with a king, without a game", 0, hall::standing);
        hall.start(1);
        due("started", 1, hall::standing);
        hall.setUp();
        due("set up", 1, hall::standing);
        says("Returns 0 none was begun, 1 it goes on");
        due("none was begun", 0, () -> cleared().standing());
        HallGuards first = game(0, "/T..KT");
        due("it goes on", 1, first::standing);
        go(first, "a2c2");
        due("the side 0 won", 2, first::standing);
        HallGuards second = game(1, ".K/..T");
        go(second, "b1a1");
        due("the side 1 won", 3, second::standing);
        HallGuards drawn = game(0, "/T...K");
        goAll(drawn, "a2b2;e2f2;b2a2;f2e2;a2b2;e2f2;b2a2");
        due("not yet drawn", 1, drawn::standing);
        go(drawn, "f2e2");
        due("it is drawn", 4, drawn::standing);
    }

    private static void turn() {
        at("Promise 22");
        says("Returns the side whose turn it is.");
        HallGuards hall = new HallGuards();
        due("at first", 0, hall::turn);
        go(hall, "d1c1");
        due("behind a move", 1, hall::turn);
        says("Returns 0 or 1.");
        due("game of the side 0", 0, () -> game(0, "/T...K").turn());
        due("game of the side 1", 1, () -> game(1, "/T...K").turn());
        says("Throws `IllegalStateException`");
        HallGuards idle = board("/T...K");
        refused("no game", STATE, idle, idle::turn);
        HallGuards first = game(0, "/T..KT");
        go(first, "a2c2");
        refused("won by the side 0", STATE, first, first::turn);
        HallGuards second = game(1, ".K/..T");
        go(second, "b1a1");
        refused("won by the side 1", STATE, second, second::turn);
        HallGuards drawn = game(0, "/T...K");
        goAll(drawn, "a2b2;e2f2;b2a2;f2e2;a2b2;e2f2;b2a2;f2e2");
        refused("drawn", STATE, drawn, drawn::turn);
    }

    private static void moves() {
        at("Promise 23");
        says("Returns how many moves were made in the game.");
        HallGuards hall = new HallGuards();
        due("none", 0, hall::moves);
        goAll(hall, "d1c1;d3e3;c1b1");
        due("of both sides", 3, hall::moves);
        Check.type(hall, "e3f3;b1c1");
        hall.play();
        due("by play(), too", 5, hall::moves);
        hall.setUp();
        due("the next game", 0, hall::moves);
        says("Returns the moves.");
        go(hall, "d1c1");
        due("one", 1, hall::moves);
        due("none by a call that throws", 1, () -> {
            Check.answerOf(() -> go(hall, "c1b1"));
            return hall.moves();
        });
        hall.clearBoard();
        due("without a game", 0, hall::moves);
        HallGuards won = game(1, ".K/..T");
        go(won, "b1a1");
        due("of a game that is over", 1, won::moves);
    }

    private static void timesSeen() {
        at("Promise 24");
        says("Returns how often a position like that of now was there");
        HallGuards hall = game(0, "/T...K");
        goAll(hall, "a2b2;e2f2;b2a2");
        due("a new one", 1, hall::timesSeen);
        go(hall, "f2e2");
        due("the same", 2, hall::timesSeen);
        hall.undo();
        due("undone", 1, hall::timesSeen);
        go(hall, "f2e2");
        due("the same once more", 2, hall::timesSeen);
        goAll(hall, "a2b2;e2f2;b2a2;f2e2");
        due("the third time", 3, hall::timesSeen);
        HallGuards other = game(0, "/T...K");
        goAll(other, "a2b2;e2f2;b2c2;f2e2;c2a2");
        due("the same pieces, the other side to move", 1, other::timesSeen);
        HallGuards again = game(0, "/T...K");
        goAll(again, "a2b2;e2f2;b2a2;f2e2");
        again.setUp();
        due("another game", 1, again::timesSeen);
        says("Returns 1 or more.");
        due("a new object", 1, () -> new HallGuards().timesSeen());
        due("started", 1, () -> game(1, "/T...K").timesSeen());
        HallGuards won = game(1, ".K/..T");
        go(won, "b1a1");
        due("a game that is won", 1, won::timesSeen);
        says("Throws `IllegalStateException`");
        HallGuards idle = cleared();
        refused("cleared", STATE, idle, idle::timesSeen);
        idle.put(0, 1, 3);
        refused("with a king", STATE, idle, idle::timesSeen);
    }
}
