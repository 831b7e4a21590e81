/** The sentences of the promises 1 to 15. */
final class CallSentences extends Sentences {
    private static final String AT_FIRST = "...T.../...T.../...G.../TTGKGTT/...G.../...T.../...T...";

    private CallSentences() {
    }

    static void all() {
        newObject();
        setUp();
        clearBoard();
        put();
        putRefused();
        start();
        startRefused();
        turnStrong();
        move();
        moveRefused();
        append();
        clearBuffer();
        firstError();
        play();
        playRefused();
        keep();
        goBack();
        undo();
        savedStates();
    }

    private static void newObject() {
        at("Promise 1");
        says("Creates a board that is set up");
        HallGuards hall = new HallGuards();
        due("the pieces", AT_FIRST, () -> Check.drawn(hall));
        due("a game goes on", 1, hall::standing);
        due("without moves", 0, hall::moves);
        due("without saved states", 0, hall::savedStates);
        due("an empty slot 0", "throws." + STATE, Check.done(() -> hall.goBack(0)));
        due("an empty slot 1", "throws." + STATE, Check.done(() -> hall.goBack(1)));
        due("an empty buffer", 0, hall::clearBuffer);
        HallGuards other = new HallGuards();
        go(hall, "d1c1");
        due("objects of their own", 0, other::moves);
    }

    private static void setUp() {
        at("Promise 2");
        says("Sets the pieces up as told above");
        HallGuards hall = board("K/.T");
        hall.setUp();
        due("without a game before", AT_FIRST, () -> Check.drawn(hall));
        due("a game begins", 1, hall::standing);
        goAll(hall, "d1c1;d3e3;c1b1");
        hall.setUp();
        due("in a game", AT_FIRST, () -> Check.drawn(hall));
        due("the side 0 moves first", 0, hall::turn);
        due("moves() from anew", 0, hall::moves);
        due("timesSeen() from anew", 1, hall::timesSeen);
        due("the king", 24, hall::kingAt);
        HallGuards over = game(1, ".K/..T");
        go(over, "b1a1");
        over.setUp();
        due("behind a game", 1, over::standing);
        due("no game is counted by that", 1, () -> over.wins(1));
        says("Undoable.");
        undoable(hall, hall::setUp);
        undoable(over, over::setUp);
        says("Returns how many pieces there are.");
        due("how many", 13, hall::setUp);
        HallGuards taken = new HallGuards();
        goAll(taken, "d1b1;c4c1");
        due("pieces that were taken, too", 13, taken::setUp);
    }

    private static void clearBoard() {
        at("Promise 3");
        says("Takes all pieces away, and ends the game");
        HallGuards hall = new HallGuards();
        go(hall, "d1c1");
        hall.clearBoard();
        due("the pieces", full(""), () -> Check.drawn(hall));
        due("no game", 0, hall::standing);
        due("no turn", "throws." + STATE, hall::turn);
        due("no king", "throws." + STATE, hall::kingAt);
        due("a piece can be put", 0, () -> hall.put(3, 3, 3));
        due("none is taken by that", 0, () -> hall.takenOf(0) + hall.takenOf(1));
        due("nobody won by that", 0, () -> hall.wins(0) + hall.wins(1) + hall.draws());
        says("Undoable.");
        undoable(hall, hall::clearBoard);
        hall.clearBoard();
        undoable(hall, hall::clearBoard);
        says("Returns how many pieces there were.");
        due("none", 0, hall::clearBoard);
        hall.put(6, 6, 3);
        due("one in the last corner", 1, hall::clearBoard);
        due("of a new object", 13, () -> new HallGuards().clearBoard());
    }

    private static void put() {
        at("Promise 4");
        says("Puts a piece on a square, in place of what is there");
        HallGuards hall = cleared();
        hall.put(2, 5, 1);
        due("a table", 1, () -> hall.pieceAt(2, 5));
        hall.put(2, 5, 2);
        due("a guard in its place", 2, () -> hall.pieceAt(2, 5));
        hall.put(2, 5, 3);
        due("the king in its place", 3, () -> hall.pieceAt(2, 5));
        hall.put(2, 5, 1);
        due("a table in the king's place", "throws." + STATE, hall::kingAt);
        due("another king", 0, () -> hall.put(5, 2, 3));
        hall.put(5, 2, 0);
        due("taken away", 1, () -> hall.piecesOf(0) + hall.piecesOf(1));
        says("Undoable.");
        undoable(hall, () -> hall.put(1, 1, 2));
        undoable(hall, () -> hall.put(1, 1, 0));
        says("- `row`: 0 to 6");
        range(0, 6, OUT, hall, row -> hall.put(row, 1, 0));
        says("- `column`: 0 to 6");
        range(0, 6, OUT, hall, column -> hall.put(1, column, 0));
        says("- `piece`: 0 none, 1 a table");
        range(0, 3, ARGUMENT, hall, piece -> hall.put(1, 1, piece));
        says("Returns what was there");
        HallGuards other = cleared();
        due("none", 0, () -> other.put(1, 1, 1));
        due("a table", 1, () -> other.put(1, 1, 2));
        due("a guard", 2, () -> other.put(1, 1, 3));
        due("the king", 3, () -> other.put(1, 1, 3));
        due("the king, taken away", 3, () -> other.put(1, 1, 0));
    }

    private static void putRefused() {
        says("Throws `IndexOutOfBoundsException`");
        HallGuards hall = board("//K");
        refused("row 7", OUT, hall, () -> hall.put(7, 0, 1));
        refused("column -1", OUT, hall, () -> hall.put(1, -1, 1));
        refused("row and column", OUT, hall, () -> hall.put(-1, 8, 1));
        says("Throws `IllegalArgumentException`");
        refused("piece 4", ARGUMENT, hall, () -> hall.put(1, 1, 4));
        refused("piece -1", ARGUMENT, hall, () -> hall.put(1, 1, -1));
        says("Throws `IllegalStateException`");
        refused("two kings", STATE, hall, () -> hall.put(1, 1, 3));
        due("the same king", 3, () -> hall.put(2, 0, 3));
        for (int square : new int[] {0, 6, 24, 42, 48}) {
            refused("a table on " + square, STATE, hall, () -> hall.put(square / 7, square % 7, 1));
            refused("a guard on " + square, STATE, hall, () -> hall.put(square / 7, square % 7, 2));
            due("nothing on " + square, 0, () -> hall.put(square / 7, square % 7, 0));
        }
        due("the king away", 3, () -> hall.put(2, 0, 0));
        for (int square : new int[] {0, 6, 24, 42, 48}) {
            due("the king on " + square, 0, () -> hall.put(square / 7, square % 7, 3));
            refused("a table in his place", STATE, hall, () -> hall.put(square / 7, square % 7, 1));
            due("he himself on " + square, 3, () -> hall.put(square / 7, square % 7, 3));
            due("the king away", 3, () -> hall.put(square / 7, square % 7, 0));
        }
        hall.put(2, 0, 3);
        hall.start(1);
        refused("a game was begun", STATE, hall, () -> hall.put(1, 1, 0));
        go(hall, "a3a1");
        refused("a game is over", STATE, hall, () -> hall.put(1, 1, 0));
        HallGuards first = new HallGuards();
        refused("the game of a new object", STATE, first, () -> first.put(0, 0, 0));
        first.clearBoard();
        first.undo();
        refused("clearBoard() is undone", STATE, first, () -> first.put(1, 1, 1));
    }

    private static void start() {
        at("Promise 5");
        says("Begins a game with the pieces as they are.");
        HallGuards hall = board("/T...K");
        hall.start(1);
        due("it goes on", 1, hall::standing);
        due("the pieces", full("/T...K"), () -> Check.drawn(hall));
        due("no moves", 0, hall::moves);
        due("seen", 1, hall::timesSeen);
        says("Undoable.");
        HallGuards idle = board("/T...K");
        undoable(idle, () -> idle.start(0));
        undoable(idle, () -> idle.start(1));
        says("- `side`: 0 or 1: the one that moves first");
        for (int side = 0; side < 2; side++) {
            int number = side;
            idle.start(side);
            due("the side " + side, number, idle::turn);
            idle.undo();
        }
        refused("-1", OUT, idle, () -> idle.start(-1));
        refused("2", OUT, idle, () -> idle.start(2));
        says("Returns how many moves that side has.");
        due("the side 0", 7, () -> idle.start(0));
        idle.undo();
        due("the side 1", 11, () -> idle.start(1));
        due("none", 0, () -> board("..TKT/...T").start(1));
        due("none without pieces", 0, () -> board("...K").start(0));
    }

    private static void startRefused() {
        says("Throws `IndexOutOfBoundsException`");
        HallGuards hall = board("/T...K");
        refused("the least", OUT, hall, () -> hall.start(Integer.MIN_VALUE));
        refused("the most", OUT, hall, () -> hall.start(Integer.MAX_VALUE));
        says("Throws `IllegalStateException`");
        hall.put(1, 4, 0);
        refused("no king", STATE, hall, () -> hall.start(0));
        for (int corner : CORNERS) {
            hall.put(corner / 7, corner % 7, 3);
            refused("the king in the corner " + corner, STATE, hall, () -> hall.start(0));
            hall.put(corner / 7, corner % 7, 0);
        }
        hall.put(0, 1, 3);
        due("the king beside a corner", 10, () -> hall.start(0));
        refused("a game goes on", STATE, hall, () -> hall.start(0));
        HallGuards over = game(1, ".K/..T");
        go(over, "b1c1");
        go(over, "c2d2");
        go(over, "c1a1");
        refused("a game is over", STATE, over, () -> over.start(0));
        HallGuards first = new HallGuards();
        refused("the game of a new object", STATE, first, () -> first.start(0));
    }

    private static void turnStrong() {
        at("Promise 6");
        says("Lets the king be taken by two everywhere");
        HallGuards hall = game(0, "/T..KT");
        due("by two", 1, () -> hall.wouldTake(7, 9));
        hall.turnStrong();
        due("by four alone", 0, () -> hall.wouldTake(7, 9));
        hall.turnStrong();
        due("by two again", 1, () -> hall.wouldTake(7, 9));
        HallGuards throne = game(0, "///T..KT");
        due("on the throne not by two", 0, () -> throne.wouldTake(21, 23));
        HallGuards beside = game(0, "//T..KT");
        due("beside it not by two", 0, () -> beside.wouldTake(14, 16));
        says("Undoable.");
        undoable(hall, hall::turnStrong);
        HallGuards over = game(1, ".K/..T");
        go(over, "b1a1");
        undoable(over, over::turnStrong);
        says("Returns true if by four alone then.");
        due("the first time", true, hall::turnStrong);
        due("isStrong()", true, hall::isStrong);
        due("the second time", false, hall::turnStrong);
        due("isStrong() no more", false, hall::isStrong);
    }

    private static void move() {
        at("Promise 7");
        says("The side whose turn it is moves a piece.");
        HallGuards hall = new HallGuards();
        go(hall, "d1c1");
        due("the pieces", full("..T/...T/...G/TTGKGTT/...G/...T/...T"), () -> Check.drawn(hall));
        due("the other side's turn", 1, hall::turn);
        refused("not the side 0", STATE, hall, () -> go(hall, "c1b1"));
        go(hall, "d3e3");
        due("the first side's turn", 0, hall::turn);
        refused("not the side 1", STATE, hall, () -> go(hall, "e3f3"));
        says("Undoable.");
        undoable(hall, () -> go(hall, "c1b1"));
        HallGuards wins = game(0, "/T..KT");
        undoable(wins, () -> go(wins, "a2c2"));
        says("- `from`: 0 to 48");
        range(0, 48, OUT, hall, from -> hall.move(from, 48));
        due("7 times its row, and its column", 0, () -> hall.move(2, 1));
        says("- `to`: 0 to 48, likewise");
        range(0, 48, OUT, hall, to -> hall.move(0, to));
        due("7 times its row, and its column", 0, () -> hall.move(18, 20));
        says("Returns how many pieces are taken by that");
        due("none", 0, () -> go(game(0, "/T..G/////.K"), "a2c2"));
        due("one", 1, () -> go(game(0, "/T..GT/////.K"), "a2c2"));
        due("the king", 1, () -> go(game(0, "/T..KT"), "a2c2"));
        due("two with the king", 2, () -> go(game(0, "//.TG.KT////...T"), "d7d3"));
        due("three", 3, () -> go(game(0, "...T/...G/.TG.GT////.K.T"), "d7d3"));
    }

    private static void moveRefused() {
        says("Throws `IndexOutOfBoundsException`");
        HallGuards hall = new HallGuards();
        refused("from", OUT, hall, () -> hall.move(49, 0));
        refused("to", OUT, hall, () -> hall.move(3, -1));
        refused("to, below the board", OUT, hall, () -> hall.move(45, 52));
        says("Throws `IllegalStateException`");
        refused("nothing is there", STATE, hall, () -> go(hall, "a1b1"));
        refused("the same square", STATE, hall, () -> go(hall, "d1d1"));
        refused("not straight", STATE, hall, () -> go(hall, "d1e2"));
        refused("something in the way", STATE, hall, () -> go(hall, "d1d5"));
        refused("something there", STATE, hall, () -> go(hall, "d1d2"));
        refused("a corner", STATE, hall, () -> go(hall, "d1a1"));
        refused("the other side's", STATE, hall, () -> go(hall, "d3e3"));
        HallGuards idle = board("/T...K");
        refused("no game", STATE, idle, () -> go(idle, "a2b2"));
        HallGuards won = game(1, ".K/..T");
        go(won, "b1a1");
        refused("a game that was won", STATE, won, () -> go(won, "c2d2"));
        refused("nor the winner", STATE, won, () -> go(won, "a1b1"));
        HallGuards drawn = game(0, "/T...K");
        goAll(drawn, "a2b2;e2f2;b2a2;f2e2;a2b2;e2f2;b2a2;f2e2");
        refused("a game that is drawn", STATE, drawn, () -> go(drawn, "a2b2"));
    }

    private static void append() {
        at("Promise 8");
        says("Appends a character to the buffer.");
        HallGuards hall = new HallGuards();
        Check.type(hall, "d1c1");
        due("in their order", 0, hall::play);
        due("the move", 1, () -> hall.pieceAt(0, 2));
        due("not undoable", 1, hall::savedStates);
        says("- `code`: the character code, 33 to 126");
        for (int code = 33; code <= 126; code++) {
            int number = code;
            due("code " + code, 1, () -> hall.append(number));
            hall.clearBuffer();
        }
        says("Returns the new length of the buffer.");
        for (int length = 1; length <= 60; length++) {
            due("the length " + length, length, () -> hall.append('a'));
        }
        says("Throws `IllegalArgumentException`");
        HallGuards empty = new HallGuards();
        for (int code : new int[] {32, 127, 0, -1, 10, 128, 97 + 256, 65536 + 97, Integer.MIN_VALUE, Integer.MAX_VALUE}) {
            refused("code " + code, ARGUMENT, empty, () -> empty.append(code));
            refused("code " + code + ", the buffer full", ARGUMENT, hall, () -> hall.append(code));
        }
        says("Throws `IllegalStateException`");
        refused("the least code", STATE, hall, () -> hall.append(33));
        refused("the greatest code", STATE, hall, () -> hall.append(126));
        due("60 yet", 60, hall::clearBuffer);
        due("one again", 1, () -> hall.append(33));
    }

    private static void clearBuffer() {
        at("Promise 9");
        says("Clears the buffer.");
        HallGuards hall = new HallGuards();
        Check.type(hall, "x");
        hall.clearBuffer();
        due("no error is left", 0, hall::firstError);
        Check.type(hall, "d1c1");
        due("what is typed then", 0, hall::play);
        due("not undoable", 1, hall::savedStates);
        says("Returns the length that it had.");
        due("empty", 0, hall::clearBuffer);
        Check.type(hall, "a");
        due("one", 1, hall::clearBuffer);
        Check.type(hall, "a".repeat(60));
        due("full", 60, hall::clearBuffer);
        due("empty again", 0, hall::clearBuffer);
    }

    private static void error(String text, int want) {
        HallGuards hall = new HallGuards();
        Check.type(hall, text);
        due(text, want, hall::firstError);
    }

    private static void firstError() {
        at("Promise 10");
        says("Finds the first syntax error of the buffer.");
        error("x1a1", 0);
        error("a1x1;x", 2);
        error("a1a1;a1a1;a1a1a", 14);
        error("!".repeat(60), 0);
        says("Returns the index of the first character that is a syntax error");
        error("", 0);
        error("a", 1);
        error("a1a1", 4);
        error("a1a1;", 5);
        error("a1g7;".repeat(12), 60);
        error("a1g7;".repeat(11) + "a1g7g", 59);
        error("a1g7;".repeat(11) + "a1g7", 59);
    }

    private static void play() {
        at("Promise 11");
        says("Makes the moves of the buffer as move() does");
        HallGuards hall = new HallGuards();
        HallGuards moved = new HallGuards();
        Check.type(hall, "d1b1;c4c1;d2a2");
        hall.play();
        goAll(moved, "d1b1;c4c1;d2a2");
        due("the pieces", Check.drawn(moved), () -> Check.drawn(hall));
        due("taken", moved.takenOf(0), () -> hall.takenOf(0));
        due("turn", 1, hall::turn);
        due("moves", 3, hall::moves);
        due("the buffer is cleared", 0, hall::clearBuffer);
        HallGuards none = new HallGuards();
        Check.type(none, "d1c1;d3e3;c1c2;e3g3;a4a1");
        refused("all or nothing", STATE, none, none::play);
        due("none was made", 0, none::allMoves);
        due("the buffer stays", 24, none::clearBuffer);
        HallGuards drawn = new HallGuards();
        Check.type(drawn, "d1c1;d3e3;c1d1;e3d3;d1c1;d3e3;c1d1;e3d3");
        drawn.play();
        due("to a draw", 4, drawn::standing);
        due("a draw", 1, drawn::draws);
        says("Undoable, as one call.");
        HallGuards whole = new HallGuards();
        long before = whole.digest();
        Check.type(whole, "d1c1;d3e3;c1b1");
        whole.play();
        due("one state", 1, whole::savedStates);
        whole.undo();
        due("undone", before, whole::digest);
        says("Returns how many pieces are taken in it.");
        HallGuards taking = game(1, "/..GT/....G//T..GT//.T..K");
        Check.type(taking, "e3e2;a5c5;e7e6");
        due("of both sides", 2, taking::play);
        HallGuards king = game(0, "/T..KT");
        Check.type(king, "a2c2");
        due("the king too", 1, king::play);
        Check.type(whole, "d1c1;d3e3");
        due("none", 0, whole::play);
    }

    private static void playRefused() {
        says("Throws `IllegalArgumentException`");
        for (String text : new String[] {"", ";", "d", "d1", "d1c", "d1c1;", "d1c1;d3", "d1c1d3", "x1c1", "d1c8", "D1C1"}) {
            HallGuards hall = new HallGuards();
            Check.type(hall, text);
            refused("text " + text, ARGUMENT, hall, hall::play);
            due("the buffer stays", text.length(), hall::clearBuffer);
        }
        says("Throws `IllegalStateException`");
        for (String text : new String[] {"d1d1", "a1b1", "d1a1", "d1e2", "d3e3", "d1c1;c1b1", "d1c1;d3e3;d1b1"}) {
            HallGuards hall = new HallGuards();
            Check.type(hall, text);
            refused("text " + text, STATE, hall, hall::play);
            due("the buffer stays", text.length(), hall::clearBuffer);
        }
        HallGuards idle = board("/T...K");
        Check.type(idle, "a2b2");
        refused("no game", STATE, idle, idle::play);
        HallGuards won = game(1, ".K/..T");
        Check.type(won, "b1a1;c2d2");
        refused("a move behind the win", STATE, won, won::play);
        HallGuards drawn = new HallGuards();
        Check.type(drawn, "d1c1;d3e3;c1d1;e3d3;d1c1;d3e3;c1d1;e3d3;d1c1");
        refused("a move behind the draw", STATE, drawn, drawn::play);
    }

    private static void keep() {
        at("Promise 12");
        says("Takes a snapshot, in place of the one in the slot.");
        HallGuards hall = new HallGuards();
        hall.keep(0);
        due("the other slot is empty", "throws." + STATE, Check.done(() -> hall.goBack(1)));
        go(hall, "d1c1");
        hall.keep(0);
        go(hall, "d3e3");
        hall.goBack(0);
        due("in place of the first", 1, hall::moves);
        due("not undoable", 3, hall::savedStates);
        says("- `slot`: 0 or 1");
        range(0, 1, ARGUMENT, hall, slot -> Check.done(() -> hall.keep(slot)).call());
        says("Throws `IllegalArgumentException`");
        refused("slot 2", ARGUMENT, hall, Check.done(() -> hall.keep(2)));
        refused("slot -1", ARGUMENT, hall, Check.done(() -> hall.keep(-1)));
    }

    private static void goBack() {
        at("Promise 13");
        says("Goes back to a snapshot, which stays.");
        HallGuards hall = new HallGuards();
        hall.keep(1);
        for (int count = 0; count < 3; count++) {
            goAll(hall, "d1c1;d3e3");
            hall.goBack(1);
            due("as at first", 0, hall::moves);
            due("the pieces", AT_FIRST, () -> Check.drawn(hall));
        }
        says("Undoable.");
        HallGuards other = new HallGuards();
        other.keep(0);
        go(other, "d1c1");
        undoable(other, Check.done(() -> other.goBack(0)));
        other.undo();
        undoable(other, Check.done(() -> other.goBack(0)));
        says("- `slot`: 0 or 1");
        other.keep(1);
        range(0, 1, ARGUMENT, other, slot -> Check.done(() -> other.goBack(slot)).call());
        says("Throws `IllegalArgumentException`");
        HallGuards empty = new HallGuards();
        refused("slot 2", ARGUMENT, empty, Check.done(() -> empty.goBack(2)));
        refused("slot -1", ARGUMENT, empty, Check.done(() -> empty.goBack(-1)));
        says("Throws `IllegalStateException`");
        refused("slot 0", STATE, empty, Check.done(() -> empty.goBack(0)));
        empty.keep(0);
        refused("slot 1", STATE, empty, Check.done(() -> empty.goBack(1)));
    }

    private static void undo() {
        at("Promise 14");
        says("Restores the latest saved state, and drops it.");
        HallGuards hall = new HallGuards();
        goAll(hall, "d1c1;d3e3;c1b1");
        for (int left = 2; left >= 0; left--) {
            int number = left;
            hall.undo();
            due("the latest", number, hall::moves);
            due("dropped", number, hall::savedStates);
        }
        says("Throws `IllegalStateException`");
        refused("none is left", STATE, hall, Check.done(hall::undo));
        HallGuards fresh = new HallGuards();
        refused("none was saved", STATE, fresh, Check.done(fresh::undo));
    }

    private static void savedStates() {
        at("Promise 15");
        says("Returns how many states are saved.");
        HallGuards hall = new HallGuards();
        go(hall, "d1c1");
        due("one", 1, hall::savedStates);
        hall.undo();
        due("none again", 0, hall::savedStates);
        says("Returns 0 to 6.");
        for (int count = 0; count < 14; count++) {
            due("behind " + count, Math.min(6, count), hall::savedStates);
            hall.turnStrong();
        }
        for (int left = 5; left >= 0; left--) {
            hall.undo();
            due("left", left, hall::savedStates);
        }
    }
}
