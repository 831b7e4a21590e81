/** Promises 41 to 46: the accounts and the digest. */
public final class AccountsTests {
    private static final String OUT = "IndexOutOfBoundsException";

    public static void main(String[] args) {
        atFirst();
        overGames();
        means();
        refused();
        digests();
        Check.end("AccountsTests");
    }

    private static void accounts(String what, HallGuards hall, int... want) {
        Check.due("41 " + what + ", wins(0)", want[0], () -> hall.wins(0));
        Check.due("41 " + what + ", wins(1)", want[1], () -> hall.wins(1));
        Check.due("42 " + what + ", draws()", want[2], hall::draws);
        Check.due("43 " + what + ", takenOf(0)", want[3], () -> hall.takenOf(0));
        Check.due("43 " + what + ", takenOf(1)", want[4], () -> hall.takenOf(1));
        Check.due("44 " + what + ", allMoves()", want[5], hall::allMoves);
    }

    private static void atFirst() {
        accounts("at first", new HallGuards(), 0, 0, 0, 0, 0, 0);
    }

    private static void overGames() {
        HallGuards hall = Check.game(0, ".......", "T..KT..");
        Check.go(hall, "a2", "c2");
        accounts("the king taken", hall, 1, 0, 0, 0, 1, 1);
        hall.clearBoard();
        accounts("the board cleared", hall, 1, 0, 0, 0, 1, 1);
        hall.put(0, 3, 3);
        hall.put(2, 3, 1);
        hall.put(2, 3, 0);
        hall.put(1, 0, 1);
        accounts("put away is not taken", hall, 1, 0, 0, 0, 1, 1);
        hall.start(1);
        Check.go(hall, "d1", "a1");
        accounts("the king in a corner", hall, 1, 1, 0, 0, 1, 2);
        hall.setUp();
        Check.type(hall, "d1c1;d3e3;c1d1;e3d3;d1c1;d3e3;c1d1;e3d3");
        hall.play();
        accounts("drawn", hall, 1, 1, 1, 0, 1, 10);
        hall.undo();
        accounts("undone", hall, 1, 1, 0, 0, 1, 2);
        hall.keep(0);
        Check.go(hall, "d1", "b1");
        Check.go(hall, "c4", "c1");
        accounts("a table taken", hall, 1, 1, 0, 1, 1, 4);
        hall.goBack(0);
        accounts("gone back", hall, 1, 1, 0, 0, 1, 2);
    }

    private static void means() {
        HallGuards hall = new HallGuards();
        Check.due("45 at first", 32.0, hall::meanMoves);
        hall.clearBoard();
        Check.due("45 of none", 0.0, hall::meanMoves);
        hall.put(0, 1, 3);
        Check.due("45 of the king", 6.0, hall::meanMoves);
        hall.put(3, 0, 2);
        Check.due("45 with a half", 10.5, hall::meanMoves);
        hall.put(5, 5, 1);
        Check.due("45 of both sides", 16.5, hall::meanMoves);
    }

    private static void refused() {
        HallGuards hall = new HallGuards();
        for (int side : new int[] {-1, 2, Integer.MIN_VALUE, Integer.MAX_VALUE}) {
            Check.refused("41 wins", OUT, hall, () -> hall.wins(side));
            Check.refused("43 takenOf", OUT, hall, () -> hall.takenOf(side));
        }
    }

    private static void digests() {
        HallGuards hall = new HallGuards();
        digest("at first", hall, 0, 0, "");
        Check.go(hall, "d1", "c1");
        digest("behind a move", hall, 0, 0, "");
        hall.turnStrong();
        hall.keep(1);
        digest("with a snapshot in the slot 1", hall, 0, 1, "");
        Check.type(hall, "d3e3~!");
        digest("with a buffer", hall, 0, 1, "d3e3~!");
        hall.goBack(1);
        hall.keep(0);
        digest("with both slots", hall, 1, 1, "d3e3~!");
        hall.clearBuffer();
        hall.clearBoard();
        digest("of an empty board", hall, 1, 1, "");
        hall.put(0, 0, 3);
        digest("of the king in a corner", hall, 1, 1, "");
        String full = ".KTTTT./TTTTTTT/TTTTTTT/TTT.TTT/TTTTTTT/TTTTTTT/.TTTTT.";
        HallGuards half = Check.board(full.split("/"));
        Check.due("45 a single move", 0.5, half::meanMoves);
        digest("of a single move", half, 0, 0, "");
        String[] boards = {".T.K.T./...T...", "...K.../T..../.....T./TT/.G.G.", "..K.T../..T....", "......./T..KT../..G"};
        for (String rows : boards) {
            HallGuards other = Check.board(rows.split("/"));
            digest("of " + rows, other, 0, 0, "");
            other.start(0);
            digest("in a game of " + rows, other, 0, 0, "");
            int best = other.bestMove(0);
            other.move(best / 49, best % 49);
            digest("behind a move of " + rows, other, 0, 0, "");
        }
    }

    private static void digest(String what, HallGuards hall, int slot0, int slot1, String buffer) {
        Hash hash = byCalls(hall);
        hash.add(slot0);
        hash.add(slot1);
        hash.add(buffer.length());
        for (char sign : buffer.toCharArray()) {
            hash.add(sign);
        }
        Check.due("46 " + what, hash.value, hall::digest);
    }

    /** The hash, by the calls of the face and in the order of the document, but for slots and buffer. */
    private static Hash byCalls(HallGuards hall) {
        Hash hash = new Hash();
        for (int row = 0; row < 7; row++) {
            for (int column = 0; column < 7; column++) {
                hash.add(hall.pieceAt(row, column));
                hash.add(hall.isHostile(row, column, 0) ? 1 : 0);
                hash.add(hall.isHostile(row, column, 1) ? 1 : 0);
                hash.add(hall.movesFrom(row, column));
            }
        }
        hash.add(hall.piecesOf(0));
        hash.add(hall.piecesOf(1));
        hash.add(orNone(1, hall::kingAt));
        hash.add(hall.isStrong() ? 1 : 0);
        hash.add(hall.standing());
        hash.add(orNone(1, hall::turn));
        hash.add(hall.moves());
        hash.add(orNone(0, hall::timesSeen));
        for (int side = 0; side < 2; side++) {
            int number = side;
            int count = hall.movesByPieces(side);
            hash.add(count);
            hash.add(hall.movesBySquares(side));
            hash.add(hall.winningMoves(side));
            hash.add(orNone(1, () -> hall.moveAt(number, 0)));
            hash.add(orNone(1, () -> hall.moveAt(number, count - 1)));
        }
        hash.add(orNone(0, hall::kingMovesByRounds));
        hash.add(orNone(0, hall::kingMovesByCorners));
        hash.add(hall.openCorners());
        hash.add(hall.kingReach());
        hash.add(orNone(1, hall::kingPressure));
        hash.add(hall.wins(0));
        hash.add(hall.wins(1));
        hash.add(hall.draws());
        hash.add(hall.takenOf(0));
        hash.add(hall.takenOf(1));
        hash.add(hall.allMoves());
        hash.add(hall.savedStates());
        hash.add(Double.doubleToLongBits(hall.meanMoves()));
        return hash;
    }

    private static long orNone(int more, java.util.concurrent.Callable<Integer> call) {
        Object answer = Check.answerOf(call);
        return answer instanceof Integer ? (Integer) answer + more : 0;
    }

    private static final class Hash {
        private long value = 4451;

        void add(long next) {
            value = 31 * value + next;
        }
    }
}
