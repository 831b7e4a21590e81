import java.util.concurrent.Callable;

/** The hash of promise 46, by the calls of the face and in the order of the document. */
final class DigestByCalls {
    private long hash = 4451;

    private DigestByCalls() {
    }

    /** Whether slots have snapshots, and what the buffer holds, must be told: no call tells it. */
    static long of(HallGuards hall, int slot0, int slot1, String buffer) {
        DigestByCalls digest = new DigestByCalls();
        digest.addSquares(hall);
        digest.addGame(hall);
        digest.addMoves(hall, 0);
        digest.addMoves(hall, 1);
        digest.addKing(hall);
        digest.addAccounts(hall);
        digest.add(slot0);
        digest.add(slot1);
        digest.add(buffer.length());
        for (char sign : buffer.toCharArray()) {
            digest.add(sign);
        }
        return digest.hash;
    }

    private void add(long value) {
        hash = 31 * hash + value;
    }

    /** The answer and some more, 0 if the call throws. */
    private void addAnswer(int more, Callable<Integer> call) {
        Object answer = Check.answerOf(call);
        add(answer instanceof Integer ? (Integer) answer + more : 0);
    }

    private void addSquares(HallGuards hall) {
        for (int row = 0; row < 7; row++) {
            for (int column = 0; column < 7; column++) {
                add(hall.pieceAt(row, column));
                add(hall.isHostile(row, column, 0) ? 1 : 0);
                add(hall.isHostile(row, column, 1) ? 1 : 0);
                add(hall.movesFrom(row, column));
            }
        }
    }

    private void addGame(HallGuards hall) {
        add(hall.piecesOf(0));
        add(hall.piecesOf(1));
        addAnswer(1, hall::kingAt);
        add(hall.isStrong() ? 1 : 0);
        add(hall.standing());
        addAnswer(1, hall::turn);
        add(hall.moves());
        addAnswer(0, hall::timesSeen);
    }

    private void addMoves(HallGuards hall, int side) {
        int count = hall.movesByPieces(side);
        add(count);
        add(hall.movesBySquares(side));
        add(hall.winningMoves(side));
        addAnswer(1, () -> hall.moveAt(side, 0));
        addAnswer(1, () -> hall.moveAt(side, count - 1));
    }

    private void addKing(HallGuards hall) {
        addAnswer(0, hall::kingMovesByRounds);
        addAnswer(0, hall::kingMovesByCorners);
        add(hall.openCorners());
        add(hall.kingReach());
        addAnswer(1, hall::kingPressure);
    }

    private void addAccounts(HallGuards hall) {
        add(hall.wins(0));
        add(hall.wins(1));
        add(hall.draws());
        add(hall.takenOf(0));
        add(hall.takenOf(1));
        add(hall.allMoves());
        add(hall.savedStates());
        add(Double.doubleToLongBits(hall.meanMoves()));
    }
}
