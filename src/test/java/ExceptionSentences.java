import java.util.ArrayList;
import java.util.List;
import java.util.concurrent.Callable;

/** The sentences under "Exceptions": calls that throw change nothing, and neither do questions. */
final class ExceptionSentences extends Sentences {
    private ExceptionSentences() {
    }

    /** A call on any object. */
    interface HallCall {
        Object on(HallGuards hall) throws Exception;
    }

    static void all() {
        changesNothing();
        firstNamed();
        questions();
    }

    /** A game with two snapshots, three saved states and a buffer that does not tell moves. */
    private static HallGuards inGame() {
        HallGuards hall = new HallGuards();
        hall.keep(0);
        goAll(hall, "d1c1;d3e3");
        hall.keep(1);
        hall.turnStrong();
        Check.type(hall, "c1b1;");
        return hall;
    }

    /** A board without a game and without a king, with a buffer that tells a move. */
    private static HallGuards withoutGame() {
        HallGuards hall = board("/.T");
        Check.type(hall, "b2c2");
        return hall;
    }

    private static HallGuards withKingInCorner() {
        HallGuards hall = board("K/.T");
        Check.type(hall, "a1b1");
        return hall;
    }

    private static HallGuards over() {
        HallGuards hall = game(1, ".K/..T");
        hall.keep(1);
        go(hall, "b1a1");
        Check.type(hall, "c2d2");
        return hall;
    }

    private static HallGuards withFullBuffer() {
        HallGuards hall = new HallGuards();
        Check.type(hall, "d1c1;".repeat(12));
        return hall;
    }

    private static HallGuards withLateError() {
        HallGuards hall = new HallGuards();
        Check.type(hall, "d1c1;d3e3;c1c2;e3g3;a4a1");
        return hall;
    }

    /** All that can still be seen of an object, by digests on the way back. */
    private static String traces(HallGuards hall) {
        List<Object> traces = new ArrayList<>();
        traces.add(hall.digest());
        for (int slot = 0; slot < 2; slot++) {
            int number = slot;
            traces.add(Check.answerOf(Check.done(() -> hall.goBack(number))));
            traces.add(hall.digest());
            Check.answerOf(Check.done(hall::undo));
        }
        while (hall.savedStates() > 0) {
            hall.undo();
            traces.add(hall.digest());
        }
        traces.add(hall.firstError());
        traces.add(hall.clearBuffer());
        return traces.toString();
    }

    private static void thrown(String what, String exception, Callable<HallGuards> maker, HallCall call) throws Exception {
        HallGuards untouched = maker.call();
        HallGuards called = maker.call();
        due(what, "throws." + exception, () -> call.on(called));
        due(what + ", what is left", traces(untouched), () -> traces(called));
    }

    private static void changesNothing() {
        at("Exceptions");
        says("A call that throws an exception changes nothing");
        try {
            undoableCalls();
            otherCalls();
        } catch (Exception unexpected) {
            due("no other exception", "none", unexpected::toString);
        }
    }

    private static void undoableCalls() throws Exception {
        thrown("put", OUT, ExceptionSentences::withoutGame, hall -> hall.put(7, 0, 1));
        thrown("put", ARGUMENT, ExceptionSentences::withoutGame, hall -> hall.put(1, 1, 4));
        thrown("put in a game", STATE, ExceptionSentences::inGame, hall -> hall.put(1, 1, 1));
        thrown("put of a table in a corner", STATE, ExceptionSentences::withoutGame, hall -> hall.put(0, 0, 1));
        thrown("put of another king", STATE, ExceptionSentences::withKingInCorner, hall -> hall.put(1, 1, 3));
        thrown("put in the king's place", STATE, ExceptionSentences::withKingInCorner, hall -> hall.put(0, 0, 2));
        thrown("start", OUT, ExceptionSentences::withoutGame, hall -> hall.start(2));
        thrown("start in a game", STATE, ExceptionSentences::inGame, hall -> hall.start(0));
        thrown("start without a king", STATE, ExceptionSentences::withoutGame, hall -> hall.start(0));
        thrown("start in a corner", STATE, ExceptionSentences::withKingInCorner, hall -> hall.start(1));
        thrown("move", OUT, ExceptionSentences::inGame, hall -> hall.move(2, 49));
        thrown("move of nothing", STATE, ExceptionSentences::inGame, hall -> hall.move(0, 1));
        thrown("move of the other side", STATE, ExceptionSentences::inGame, hall -> go(hall, "e3f3"));
        thrown("move without a game", STATE, ExceptionSentences::withoutGame, hall -> go(hall, "b2c2"));
        thrown("move behind the game", STATE, ExceptionSentences::over, hall -> go(hall, "c2d2"));
        thrown("play", ARGUMENT, ExceptionSentences::inGame, HallGuards::play);
        thrown("play of a full buffer", ARGUMENT, ExceptionSentences::withFullBuffer, HallGuards::play);
        thrown("play without a game", STATE, ExceptionSentences::withoutGame, HallGuards::play);
        thrown("play behind the game", STATE, ExceptionSentences::over, HallGuards::play);
        thrown("play with a wrong last move", STATE, ExceptionSentences::withLateError, HallGuards::play);
    }

    private static Object done(Runnable call) {
        call.run();
        return "done";
    }

    private static void otherCalls() throws Exception {
        thrown("append", ARGUMENT, ExceptionSentences::inGame, hall -> hall.append(32));
        thrown("append to a full buffer", STATE, ExceptionSentences::withFullBuffer, hall -> hall.append('a'));
        thrown("keep", ARGUMENT, ExceptionSentences::inGame, hall -> done(() -> hall.keep(2)));
        thrown("goBack", ARGUMENT, ExceptionSentences::inGame, hall -> done(() -> hall.goBack(-1)));
        thrown("goBack to nothing", STATE, ExceptionSentences::over, hall -> done(() -> hall.goBack(0)));
        thrown("undo", STATE, ExceptionSentences::withFullBuffer, hall -> done(hall::undo));
        thrown("kingAt", STATE, ExceptionSentences::withoutGame, HallGuards::kingAt);
        thrown("turn", STATE, ExceptionSentences::over, HallGuards::turn);
        thrown("timesSeen", STATE, ExceptionSentences::withoutGame, HallGuards::timesSeen);
        thrown("wouldTake", STATE, ExceptionSentences::inGame, hall -> hall.wouldTake(0, 1));
        thrown("wouldWin", STATE, ExceptionSentences::inGame, hall -> hall.wouldWin(24, 0));
        thrown("worthOf", STATE, ExceptionSentences::inGame, hall -> hall.worthOf(3, 3));
        thrown("moveAt", OUT, ExceptionSentences::inGame, hall -> hall.moveAt(0, 99));
        thrown("bestMove", STATE, ExceptionSentences::withoutGame, hall -> hall.bestMove(1));
        thrown("kingMovesByRounds", STATE, ExceptionSentences::withoutGame, HallGuards::kingMovesByRounds);
        thrown("kingMovesByCorners", STATE, ExceptionSentences::withoutGame, HallGuards::kingMovesByCorners);
        thrown("kingPressure", STATE, ExceptionSentences::withoutGame, HallGuards::kingPressure);
    }

    private static void firstNamed() {
        says("If several exceptions apply, the one that is named first");
        HallGuards hall = withFullBuffer();
        refused("put, all three", OUT, hall, () -> hall.put(7, 7, 4));
        refused("put, the first and the last", OUT, hall, () -> hall.put(-1, 0, 1));
        refused("put, the last two", ARGUMENT, hall, () -> hall.put(0, 0, 4));
        refused("start", OUT, hall, () -> hall.start(2));
        refused("append", ARGUMENT, hall, () -> hall.append(127));
        refused("goBack", ARGUMENT, hall, Check.done(() -> hall.goBack(2)));
        hall.clearBoard();
        refused("start without a king", OUT, hall, () -> hall.start(-1));
        refused("move", OUT, hall, () -> hall.move(0, 49));
        refused("move, the square from", OUT, hall, () -> hall.move(-1, 0));
        refused("play", ARGUMENT, hall, hall::play);
        refused("wouldTake", OUT, hall, () -> hall.wouldTake(0, 49));
        refused("wouldWin", OUT, hall, () -> hall.wouldWin(0, 49));
        refused("worthOf", OUT, hall, () -> hall.worthOf(0, 49));
        refused("bestMove", OUT, hall, () -> hall.bestMove(2));
    }

    private static void harmless(HallCall... calls) {
        List<Callable<HallGuards>> makers = List.of(ExceptionSentences::inGame, ExceptionSentences::withoutGame,
                ExceptionSentences::withKingInCorner, ExceptionSentences::over, HallGuards::new);
        for (Callable<HallGuards> maker : makers) {
            due("what is left", "the same", () -> {
                HallGuards untouched = maker.call();
                HallGuards asked = maker.call();
                for (HallCall call : calls) {
                    Check.answerOf(() -> call.on(asked));
                }
                return traces(untouched).equals(traces(asked)) ? "the same" : "something else";
            });
        }
    }

    private static void questions() {
        says("Ahead of the calls `pieceAt`,");
        harmless(hall -> hall.pieceAt(0, 3), hall -> hall.piecesOf(1), HallGuards::kingAt,
                hall -> hall.isHostile(3, 3, 0), HallGuards::isStrong, HallGuards::standing, HallGuards::turn,
                HallGuards::moves, HallGuards::timesSeen);
        says("Ahead of the calls `canMove`,");
        harmless(hall -> hall.canMove(2, 1), hall -> hall.reasonAgainst(2, 0), hall -> hall.movesFrom(1, 1),
                hall -> hall.movesByPieces(0), hall -> hall.movesBySquares(1), hall -> hall.wouldTake(2, 1),
                hall -> hall.wouldTake(8, 9), hall -> hall.wouldWin(2, 1), hall -> hall.wouldWin(8, 9),
                hall -> hall.winningMoves(0), hall -> hall.winningMoves(1), hall -> hall.moveAt(0, 0));
        says("Ahead of the calls `kingMovesByRounds`,");
        harmless(HallGuards::kingMovesByRounds, HallGuards::kingMovesByCorners, HallGuards::openCorners,
                HallGuards::kingReach, HallGuards::kingPressure);
        says("Ahead of the calls `worthOf`,");
        harmless(hall -> hall.worthOf(2, 1), hall -> hall.worthOf(8, 9), hall -> hall.bestMove(0),
                hall -> hall.bestMove(1));
        says("Ahead of the calls `wins`,");
        harmless(hall -> hall.wins(0), HallGuards::draws, hall -> hall.takenOf(1), HallGuards::allMoves,
                HallGuards::meanMoves, HallGuards::digest);
    }
}
