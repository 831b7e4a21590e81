import java.util.Random;
import java.util.concurrent.Callable;

/** Seeded runs of up to 512 calls, in which the class and the model must answer alike. */
public final class ModelTests {
    private static final int CALLS = 500;

    private final Random random;
    private final HallGuards hall = new HallGuards();
    private final Model model = new Model();
    private final int seed;
    private int made;

    private ModelTests(int seed) {
        this.seed = seed;
        random = new Random(seed);
    }

    public static void main(String[] args) {
        int runs = args.length > 0 ? Integer.parseInt(args[0]) : 60;
        for (int seed = 1; seed <= runs; seed++) {
            new ModelTests(seed).run();
        }
        Check.end("ModelTests");
    }

    private void run() {
        while (made < CALLS - 20) {
            int kind = random.nextInt(40);
            if (kind < 2) {
                arrange();
            } else if (kind < 24) {
                anyMove();
            } else if (kind < 27) {
                goodMove();
            } else if (kind < 29) {
                text();
            } else if (kind < 31) {
                saves();
            } else if (kind < 32) {
                backAndForth();
            } else {
                questions();
            }
            same("digest()", hall::digest, model::digest);
        }
    }

    private void same(String call, Callable<?> mine, Callable<?> due) {
        made++;
        Check.due("seed " + seed + ", call " + made + ", " + call, Check.answerOf(due), mine);
    }

    /** A number that is mostly below the limit, sometimes out of range. */
    private int number(int limit) {
        return random.nextInt(12) == 0 ? random.nextInt(limit + 4) - 2 : random.nextInt(limit);
    }

    private void arrange() {
        int kind = random.nextInt(4);
        if (kind == 0) {
            same("setUp()", hall::setUp, model::setUp);
            return;
        }
        if (kind == 1) {
            same("turnStrong()", hall::turnStrong, model::turnStrong);
        }
        same("clearBoard()", hall::clearBoard, model::clearBoard);
        int pieces = random.nextInt(3) == 0 ? 4 : 4 + random.nextInt(22);
        for (int count = 0; count < pieces; count++) {
            put(count == 0 ? 3 : random.nextInt(12) == 0 ? number(4) : 1 + random.nextInt(2));
        }
        int side = number(2);
        same("start(" + side + ")", () -> hall.start(side), () -> model.start(side));
    }

    private void put(int piece) {
        int row = number(7);
        int column = number(7);
        same("put(" + row + ", " + column + ", " + piece + ")",
                () -> hall.put(row, column, piece), () -> model.put(row, column, piece));
    }

    private void move(int code) {
        int from = code / 49;
        int to = code % 49;
        same("move(" + from + ", " + to + ")", () -> hall.move(from, to), () -> model.move(from, to));
    }

    private void anyMove() {
        for (int count = 1 + random.nextInt(3); count > 0; count--) {
            int side = model.standing() == 1 ? model.turn() : 0;
            int choices = model.movesByPieces(side);
            if (choices == 0 || random.nextInt(15) == 0) {
                int from = number(49);
                int to = number(49);
                same("move(" + from + ", " + to + ")", () -> hall.move(from, to), () -> model.move(from, to));
            } else {
                move(model.moveAt(side, random.nextInt(choices)));
            }
        }
    }

    private void goodMove() {
        int side = model.standing() == 1 ? model.turn() : number(2);
        same("bestMove(" + side + ")", () -> hall.bestMove(side), () -> model.bestMove(side));
        if ((side == 0 || side == 1) && model.movesByPieces(side) > 0) {
            move(hall.bestMove(side));
        }
    }

    /** Each side goes away and comes back, until the game is drawn or something is taken. */
    private void backAndForth() {
        if (model.standing() != 1 || model.movesByPieces(0) == 0 || model.movesByPieces(1) == 0) {
            return;
        }
        int[] away = new int[2];
        for (int side = 0; side < 2; side++) {
            away[side] = model.moveAt(side, random.nextInt(model.movesByPieces(side)));
        }
        for (int count = 0; count < 9 && model.standing() == 1; count++) {
            int side = model.turn();
            move(away[side]);
            away[side] = 49 * (away[side] % 49) + away[side] / 49;
            same("timesSeen()", hall::timesSeen, model::timesSeen);
        }
    }

    private void text() {
        StringBuilder text = new StringBuilder();
        int parts = 1 + random.nextInt(3);
        int side = model.standing() == 1 ? model.turn() : 0;
        for (int part = 0; part < parts; part++) {
            int choices = model.movesByPieces(side);
            int code = choices == 0 ? random.nextInt(2401) : model.moveAt(side, random.nextInt(choices));
            text.append(part == 0 ? "" : ";");
            text.append(name(code / 49)).append(name(code % 49));
            side = 1 - side;
        }
        if (random.nextInt(4) == 0) {
            text.setCharAt(random.nextInt(text.length()), (char) (33 + random.nextInt(94)));
        }
        if (random.nextInt(6) == 0) {
            text.setLength(random.nextInt(text.length()));
        }
        if (random.nextInt(5) > 0) {
            same("clearBuffer()", hall::clearBuffer, model::clearBuffer);
        }
        for (char sign : text.toString().toCharArray()) {
            same("append(" + (int) sign + ")", () -> hall.append(sign), () -> model.append(sign));
        }
        int code = number(127);
        same("firstError()", hall::firstError, model::firstError);
        same("play()", hall::play, model::play);
        if (random.nextInt(4) == 0) {
            same("append(" + code + ")", () -> hall.append(code), () -> model.append(code));
        }
    }

    private static String name(int square) {
        return "" + (char) ('a' + square % 7) + (char) ('1' + square / 7);
    }

    private void saves() {
        int slot = number(2);
        switch (random.nextInt(4)) {
            case 0:
                same("keep(" + slot + ")", Check.done(() -> hall.keep(slot)), Check.done(() -> model.keep(slot)));
                break;
            case 1:
                same("goBack(" + slot + ")", Check.done(() -> hall.goBack(slot)), Check.done(() -> model.goBack(slot)));
                break;
            default:
                for (int count = random.nextInt(8); count >= 0; count--) {
                    same("undo()", Check.done(hall::undo), Check.done(model::undo));
                }
        }
    }

    private void questions() {
        int row = number(7);
        int column = number(7);
        int side = number(2);
        int from = number(49);
        int to = random.nextInt(3) == 0 ? number(49) : inLine(from);
        int place = number(70);
        same("pieceAt", () -> hall.pieceAt(row, column), () -> model.pieceAt(row, column));
        same("piecesOf", () -> hall.piecesOf(side), () -> model.piecesOf(side));
        same("isHostile", () -> hall.isHostile(row, column, side), () -> model.isHostile(row, column, side));
        same("movesFrom", () -> hall.movesFrom(row, column), () -> model.movesFrom(row, column));
        same("canMove", () -> hall.canMove(from, to), () -> model.canMove(from, to));
        same("reasonAgainst", () -> hall.reasonAgainst(from, to), () -> model.reasonAgainst(from, to));
        same("wouldTake", () -> hall.wouldTake(from, to), () -> model.wouldTake(from, to));
        same("wouldWin", () -> hall.wouldWin(from, to), () -> model.wouldWin(from, to));
        same("worthOf", () -> hall.worthOf(from, to), () -> model.worthOf(from, to));
        same("winningMoves", () -> hall.winningMoves(side), () -> model.winningMoves(side));
        same("moveAt", () -> hall.moveAt(side, place), () -> model.moveAt(side, place));
        same("movesBySquares", () -> hall.movesBySquares(side), () -> model.movesBySquares(side));
        same("kingAt", hall::kingAt, model::kingAt);
        same("turn", hall::turn, model::turn);
        same("timesSeen", hall::timesSeen, model::timesSeen);
        same("kingMovesByRounds", hall::kingMovesByRounds, model::kingMovesByRounds);
        same("kingMovesByCorners", hall::kingMovesByCorners, model::kingMovesByCorners);
        same("kingPressure", hall::kingPressure, model::kingPressure);
        same("meanMoves", hall::meanMoves, model::meanMoves);
        same("wins", () -> hall.wins(side), () -> model.wins(side));
        same("takenOf", () -> hall.takenOf(side), () -> model.takenOf(side));
    }

    private int inLine(int square) {
        int to = random.nextInt(7);
        return random.nextBoolean() ? 7 * (square / 7) + to : 7 * to + Math.floorMod(square, 7);
    }
}
