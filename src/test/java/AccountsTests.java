/** Promises 41 to 46: the accounts and the digest. */
public final class AccountsTests {
    private static final String OUT = "IndexOutOfBoundsException";

    public static void main(String[] args) {
        atFirst();
        overGames();
        means();
        refused();
        digests();
        Check.end("AccountsTests");
    }

    private static void accounts(String what, HallGuards hall, int... want) {
        Check.due("41 " + what + ", wins(0)", want[0], () -> hall.wins(0));
        Check.due("41 " + what + ", wins(1)", want[1], () -> hall.wins(1));
        Check.due("42 " + what + ", draws()", want[2], hall::draws);
        Check.due("43 " + what + ", takenOf(0)", want[3], () -> hall.takenOf(0));
        Check.due("43 " + what + ", takenOf(1)", want[4], () -> hall.takenOf(1));
        Check.due("44 " + what + ", allMoves()", want[5], hall::allMoves);
    }

    private static void atFirst() {
        accounts("at first", new HallGuards(), 0, 0, 0, 0, 0, 0);
    }

    private static void overGames() {
        HallGuards hall = Check.game(0, ".......", "T..KT..");
        Check.go(hall, "a2", "c2");
        accounts("the king taken", hall, 1, 0, 0, 0, 1, 1);
        hall.clearBoard();
        accounts("the board cleared", hall, 1, 0, 0, 0, 1, 1);
        hall.put(0, 3, 3);
        hall.put(2, 3, 1);
        hall.put(2, 3, 0);
        hall.put(1, 0, 1);
        accounts("put away is not taken", hall, 1, 0, 0, 0, 1, 1);
        hall.start(1);
        Check.go(hall, "d1", "a1");
        accounts("the king in a corner", hall, 1, 1, 0, 0, 1, 2);
        hall.setUp();
        Check.type(hall, "d1c1;d3e3;c1d1;e3d3;d1c1;d3e3;c1d1;e3d3");
        hall.play();
        accounts("drawn", hall, 1, 1, 1, 0, 1, 10);
        hall.undo();
        accounts("undone", hall, 1, 1, 0, 0, 1, 2);
        hall.keep(0);
        Check.go(hall, "d1", "b1");
        Check.go(hall, "c4", "c1");
        accounts("a table taken", hall, 1, 1, 0, 1, 1, 4);
        hall.goBack(0);
        accounts("gone back", hall, 1, 1, 0, 0, 1, 2);
    }

    private static void means() {
        HallGuards hall = new HallGuards();
        Check.due("45 at first", 32.0, hall::meanMoves);
        hall.clearBoard();
        Check.due("45 of none", 0.0, hall::meanMoves);
        hall.put(0, 1, 3);
        Check.due("45 of the king", 6.0, hall::meanMoves);
        hall.put(3, 0, 2);
        Check.due("45 with a half", 10.5, hall::meanMoves);
        hall.put(5, 5, 1);
        Check.due("45 of both sides", 16.5, hall::meanMoves);
    }

    private static void refused() {
        HallGuards hall = new HallGuards();
        for (int side : new int[] {-1, 2, Integer.MIN_VALUE, Integer.MAX_VALUE}) {
            Check.refused("41 wins", OUT, hall, () -> hall.wins(side));
            Check.refused("43 takenOf", OUT, hall, () -> hall.takenOf(side));
        }
    }

    private static void digests() {
        HallGuards hall = new HallGuards();
        digest("at first", hall, 0, 0, "");
        Check.go(hall, "d1", "c1");
        digest("behind a move", hall, 0, 0, "");
        hall.turnStrong();
        hall.keep(1);
        digest("with a snapshot in the slot 1", hall, 0, 1, "");
        Check.type(hall, "d3e3~!");
        digest("with a buffer", hall, 0, 1, "d3e3~!");
        hall.goBack(1);
        hall.keep(0);
        digest("with both slots", hall, 1, 1, "d3e3~!");
        hall.clearBuffer();
        hall.clearBoard();
        digest("of an empty board", hall, 1, 1, "");
        hall.put(0, 0, 3);
        digest("of the king in a corner", hall, 1, 1, "");
        String full = ".KTTTT./TTTTTTT/TTTTTTT/TTT.TTT/TTTTTTT/TTTTTTT/.TTTTT.";
        HallGuards half = Check.board(full.split("/"));
        Check.due("45 a single move", 0.5, half::meanMoves);
        digest("of a single move", half, 0, 0, "");
        String[] boards = {".T.K.T./...T...", "...K.../T..../.....T./TT/.G.G.", "..K.T../..T....", "......./T..KT../..G"};
        for (String rows : boards) {
            HallGuards other = Check.board(rows.split("/"));
            digest("of " + rows, other, 0, 0, "");
            other.start(0);
            digest("in a game of " + rows, other, 0, 0, "");
            int best = other.bestMove(0);
            other.move(best / 49, best % 49);
            digest("behind a move of " + rows, other, 0, 0, "");
        }
    }

    private static void digest(String what, HallGuards hall, int slot0, int slot1, String buffer) {
        Check.due("46 " + what, DigestByCalls.of(hall, slot0, slot1, buffer), hall::digest);
    }
}
