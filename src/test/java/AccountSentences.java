/** The sentences of the promises 41 to 46. */
final class AccountSentences extends Sentences {
    private static final String TO_A_DRAW = "d1c1;d3e3;c1d1;e3d3;d1c1;d3e3;c1d1;e3d3";

    private AccountSentences() {
    }

    static void all() {
        wins();
        draws();
        takenOf();
        allMoves();
        meanMoves();
        digest();
        values();
        overflow();
    }

    private static void sideRefused(HallGuards hall, NumberCall call) {
        says("- `side`: 0 or 1");
        range(0, 1, OUT, hall, call);
        says("Throws `IndexOutOfBoundsException`");
        refused("side -1", OUT, hall, () -> call.with(-1));
        refused("side 2", OUT, hall, () -> call.with(2));
    }

    /** A game that the side 0 wins, on the board of the object. */
    private static void winFirst(HallGuards hall) {
        hall.clearBoard();
        hall.put(1, 0, 1);
        hall.put(1, 3, 3);
        hall.put(1, 4, 1);
        hall.start(0);
        go(hall, "a2c2");
    }

    private static void winSecond(HallGuards hall) {
        hall.clearBoard();
        hall.put(1, 2, 1);
        hall.put(0, 1, 3);
        hall.start(1);
        go(hall, "b1a1");
    }

    private static void wins() {
        at("Promise 41");
        says("Returns how many games a side won so far.");
        HallGuards hall = new HallGuards();
        due("none of the side 0", 0, () -> hall.wins(0));
        due("none of the side 1", 0, () -> hall.wins(1));
        winFirst(hall);
        winSecond(hall);
        winFirst(hall);
        due("two of the side 0", 2, () -> hall.wins(0));
        due("one of the side 1", 1, () -> hall.wins(1));
        goAllOf(hall, TO_A_DRAW);
        due("a draw is none", 3, () -> hall.wins(0) + hall.wins(1));
        sideRefused(hall, hall::wins);
        says("Returns the games.");
        hall.undo();
        hall.setUp();
        hall.setUp();
        due("a game that is not ended is none", 3, () -> hall.wins(0) + hall.wins(1));
        hall.wouldWin(3, 1);
        due("nor is what would win", 2, () -> hall.wins(0));
        HallGuards undone = new HallGuards();
        winSecond(undone);
        undone.undo();
        due("undone", 0, () -> undone.wins(1));
    }

    private static void goAllOf(HallGuards hall, String moves) {
        hall.setUp();
        goAll(hall, moves);
    }

    private static void draws() {
        at("Promise 42");
        says("Returns how many games were drawn so far.");
        HallGuards hall = new HallGuards();
        due("none", 0, hall::draws);
        goAllOf(hall, TO_A_DRAW);
        due("one", 1, hall::draws);
        goAllOf(hall, TO_A_DRAW);
        due("two", 2, hall::draws);
        says("Returns the games.");
        winFirst(hall);
        winSecond(hall);
        due("those that were won are none", 2, hall::draws);
        HallGuards undone = new HallGuards();
        goAllOf(undone, TO_A_DRAW);
        undone.undo();
        due("undone", 0, undone::draws);
    }

    private static void takenOf() {
        at("Promise 43");
        says("Returns how many pieces of a side were taken so far, kings too.");
        HallGuards hall = new HallGuards();
        due("no table", 0, () -> hall.takenOf(0));
        due("no guard", 0, () -> hall.takenOf(1));
        goAll(hall, "d1b1;c4c1");
        due("a table", 1, () -> hall.takenOf(0));
        due("no guard yet", 0, () -> hall.takenOf(1));
        winFirst(hall);
        winFirst(hall);
        due("two kings", 2, () -> hall.takenOf(1));
        due("the table of before", 1, () -> hall.takenOf(0));
        goAllOf(hall, "d1b1;c4c1");
        due("a table more", 2, () -> hall.takenOf(0));
        sideRefused(hall, hall::takenOf);
        says("Returns the pieces.");
        HallGuards three = game(0, "...T/...G/.TG.GT////.K.T");
        go(three, "d7d3");
        due("three at once", 3, () -> three.takenOf(1));
        three.undo();
        due("undone", 0, () -> three.takenOf(1));
        HallGuards put = board("/T.G");
        put.put(1, 0, 0);
        put.put(1, 2, 3);
        put.clearBoard();
        due("put away is not taken", 0, () -> put.takenOf(0) + put.takenOf(1));
    }

    private static void allMoves() {
        at("Promise 44");
        says("Returns how many moves were made so far, in all games.");
        HallGuards hall = new HallGuards();
        due("none", 0, hall::allMoves);
        goAll(hall, "d1c1;d3e3;c1b1");
        due("of both sides", 3, hall::allMoves);
        goAllOf(hall, "d1c1;d3e3");
        due("in two games", 5, hall::allMoves);
        due("in the second", 2, hall::moves);
        winFirst(hall);
        due("in three", 6, hall::allMoves);
        says("Returns the moves.");
        hall.setUp();
        Check.type(hall, "d1c1;d3e3");
        hall.play();
        due("by play(), too", 8, hall::allMoves);
        hall.undo();
        due("undone", 6, hall::allMoves);
        hall.wouldTake(3, 1);
        hall.worthOf(3, 1);
        hall.bestMove(0);
        Check.answerOf(() -> hall.move(3, 0));
        due("none by questions, nor by a call that throws", 6, hall::allMoves);
    }

    private static void meanMoves() {
        at("Promise 45");
        says("Returns the mean number of moves of both sides as they are.");
        HallGuards hall = new HallGuards();
        due("at first", 32.0, hall::meanMoves);
        go(hall, "d1b1");
        due("behind a move", (hall.movesByPieces(0) + hall.movesByPieces(1)) / 2.0, hall::meanMoves);
        says("Returns movesByPieces() of both, together, as a double, divided by 2.");
        due("none", 0.0, () -> cleared().meanMoves());
        due("one", 0.5, () -> board(".KTTTT./TTTTTTT/TTTTTTT/TTT.TTT/TTTTTTT/TTTTTTT/.TTTTT.").meanMoves());
        due("of one side", 6.0, () -> board("K").meanMoves());
        due("of both", 10.5, () -> board("KT//T").meanMoves());
        due("with a half", 8.5, () -> board("/T..K").meanMoves());
    }

    private static void digest() {
        at("Promise 46");
        says("Computes a hash of the whole state.");
        HallGuards hall = new HallGuards();
        long first = hall.digest();
        due("the same of another object", first, () -> new HallGuards().digest());
        due("the same once more", first, hall::digest);
        other("strong", hall, hall::turnStrong);
        other("a slot", hall, Check.done(() -> hall.keep(0)));
        other("another slot", hall, Check.done(() -> hall.keep(1)));
        other("a character", hall, () -> hall.append('a'));
        other("another character", hall, () -> hall.append('b'));
        other("a move", hall, () -> go(hall, "d1c1"));
        other("undo", hall, Check.done(hall::undo));
        other("a cleared buffer", hall, hall::clearBuffer);
        other("a cleared board", hall, hall::clearBoard);
        says("The hash starts at 4451.");
        HallGuards empty = cleared();
        empty.undo();
        due("at first", DigestByCalls.of(empty, 0, 0, ""), empty::digest);
    }

    private static void other(String what, HallGuards hall, java.util.concurrent.Callable<?> call) {
        long before = hall.digest();
        Check.answerOf(call);
        due(what, false, () -> hall.digest() == before);
    }

    private static void same(String what, HallGuards hall, int slot0, int slot1, String buffer) {
        due(what, DigestByCalls.of(hall, slot0, slot1, buffer), hall::digest);
    }

    private static void values() {
        says("The values are: for each square, row by row, pieceAt");
        HallGuards hall = new HallGuards();
        same("at first", hall, 0, 0, "");
        go(hall, "d1c1");
        same("behind a move", hall, 0, 0, "");
        hall.keep(1);
        same("the slot 1", hall, 0, 1, "");
        hall.keep(0);
        same("both slots", hall, 1, 1, "");
        Check.type(hall, "!a1~");
        same("a buffer", hall, 1, 1, "!a1~");
        Check.type(hall, "z".repeat(56));
        same("a full buffer", hall, 1, 1, "!a1~" + "z".repeat(56));
        hall.clearBuffer();
        goAllOf(hall, TO_A_DRAW);
        same("drawn", hall, 1, 1, "");
        winFirst(hall);
        same("won by the side 0", hall, 1, 1, "");
        winSecond(hall);
        same("won by the side 1", hall, 1, 1, "");
        hall.turnStrong();
        same("strong", hall, 1, 1, "");
        hall.clearBoard();
        same("cleared: what throws is 0", hall, 1, 1, "");
        String[] boards = {"K", "///...K", "..TKT/...T", "KT//T", "...K/.T", "/T..KT", "///T.....G", "//////......K",
            ".TTTTT/TK...T/TTTT.T/T....T/T.TTTTT/......T/.T...T"};
        for (String rows : boards) {
            same(rows, board(rows), 0, 0, "");
        }
        same("a single move", board(".KTTTT./TTTTTTT/TTTTTTT/TTT.TTT/TTTTTTT/TTTTTTT/.TTTTT."), 0, 0, "");
        same("three moves", board(".KTTTT./.TTTTTT/TTTTTTT/TTT.TTT/TTTTTTT/TTTTTTT/.TTTTT."), 0, 0, "");
    }

    /** From no moves to many: the bits of means with and without a half. */
    private static void overflow() {
        says("For each value v of the following list");
        HallGuards full = board(".TTTTT./TTTTTTT/TTTTTTT/TTT.TTT/TTTTTTT/TTTTTTT/.TTTTT.");
        for (int square = 1; square < 48; square++) {
            full.put(square / 7, square % 7, 0);
            same("less the first " + square, full, 0, 0, "");
        }
        says("Returns the hash.");
        due("a long, of either sign", true, () -> {
            boolean below = false;
            boolean above = false;
            HallGuards hall = new HallGuards();
            for (char sign = '!'; sign <= 'Z'; sign++) {
                hall.append(sign);
                below |= hall.digest() < Integer.MIN_VALUE;
                above |= hall.digest() > Integer.MAX_VALUE;
            }
            return below && above;
        });
    }
}
