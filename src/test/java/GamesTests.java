/** Promises 7, 21 to 24, 31, 32, 41, 42 and 44: how games stand, end and are counted. */
public final class GamesTests {
    private static final String OUT = "IndexOutOfBoundsException";
    private static final String STATE = "IllegalStateException";

    public static void main(String[] args) {
        kingTaken();
        kingInCorner();
        tablesWithoutMove();
        guardsWithoutMove();
        drawn();
        seenBySide();
        seenInThisGameOnly();
        wouldWin();
        wouldWinWithoutKing();
        winningMoves();
        refused();
        Check.end("GamesTests");
    }

    private static void stands(String what, HallGuards hall, int standing, int wins0, int wins1, int draws) {
        Check.due(what + ", standing()", standing, hall::standing);
        Check.due(what + ", wins(0)", wins0, () -> hall.wins(0));
        Check.due(what + ", wins(1)", wins1, () -> hall.wins(1));
        Check.due(what + ", draws()", draws, hall::draws);
    }

    private static void kingTaken() {
        HallGuards hall = Check.game(0, ".......", "T..KT..");
        Check.due("31 takes the king", true, () -> hall.wouldWin(7, 9));
        Check.due("31 does not", false, () -> hall.wouldWin(7, 8));
        Check.due("7 the king too", 1, () -> hall.move(7, 9));
        stands("21 the side 0 won", hall, 2, 1, 0, 0);
        Check.due("22 turn()", "throws." + STATE, hall::turn);
        Check.due("23 moves()", 1, hall::moves);
        Check.due("24 timesSeen()", 1, hall::timesSeen);
        Check.due("18 kingAt()", "throws." + STATE, hall::kingAt);
        Check.due("43 takenOf(1)", 1, () -> hall.takenOf(1));
        hall.undo();
        stands("21 undone", hall, 1, 0, 0, 0);
        Check.due("22 turn() undone", 0, hall::turn);
    }

    private static void kingInCorner() {
        for (int corner : new int[] {0, 6, 42, 48}) {
            HallGuards hall = Check.board(".......", "..T....");
            hall.put(corner / 7, 3, 3);
            hall.start(1);
            int king = 7 * (corner / 7) + 3;
            Check.due("31 comes to a corner", true, () -> hall.wouldWin(king, corner));
            Check.due("7 into a corner", 0, () -> hall.move(king, corner));
            stands("21 the side 1 won", hall, 3, 0, 1, 0);
            Check.due("22 turn()", "throws." + STATE, hall::turn);
            Check.due("24 timesSeen()", 1, hall::timesSeen);
        }
    }

    private static void tablesWithoutMove() {
        HallGuards hall = Check.game(1, ".......", "..GT...", "....G..", ".......", "K......");
        Check.due("31 takes the last table", true, () -> hall.wouldWin(Check.at("e3"), Check.at("e2")));
        Check.due("7 the last table", 1, () -> Check.go(hall, "e3", "e2"));
        stands("21 the side 0 has no piece", hall, 3, 0, 1, 0);
        HallGuards shut = Check.game(1, ".T.....", "GG.....", "......K", "..G....");
        Check.due("31 shuts the last table in", true, () -> shut.wouldWin(Check.at("c4"), Check.at("c1")));
        Check.due("7 shuts it in and takes it", 1, () -> Check.go(shut, "c4", "c1"));
        stands("21 the side 0 has no move", shut, 3, 0, 1, 0);
        HallGuards held = Check.game(1, "...T...", "...G...", "......K", "..G.G..", ".......", "....G..");
        Check.go(held, "c4", "c1");
        stands("21 it has moves yet", held, 1, 0, 0, 0);
        Check.go(held, "d1", "e1");
        Check.due("31 takes it at the edge", false, () -> held.wouldWin(Check.at("e4"), Check.at("e2")));
        Check.due("31 does not shut it in", false, () -> held.wouldWin(Check.at("d2"), Check.at("d1")));
    }

    private static void guardsWithoutMove() {
        HallGuards hall = Check.board(".T.KT..", "...T...");
        hall.turnStrong();
        hall.start(0);
        Check.due("31 leaves no move", true, () -> hall.wouldWin(1, 2));
        Check.due("31 leaves a move", false, () -> hall.wouldWin(4, 5));
        Check.due("7 nothing is taken", 0, () -> hall.move(1, 2));
        stands("21 the side 1 has no move", hall, 2, 1, 0, 0);
        Check.due("18 the king is there", 3, hall::kingAt);
        Check.due("24 timesSeen()", 1, hall::timesSeen);
        HallGuards stuck = Check.game(0, ".T.KT..", "...T...", ".......", "T......");
        Check.due("32 the king who is not strong is taken", 1, () -> stuck.winningMoves(0));
    }

    private static final String[][] ROUND = {{"d1", "c1"}, {"d3", "e3"}, {"c1", "d1"}, {"e3", "d3"}};

    private static void drawn() {
        HallGuards hall = new HallGuards();
        for (int count = 0; count < 7; count++) {
            Check.go(hall, ROUND[count % 4][0], ROUND[count % 4][1]);
            int seen = count < 3 ? 1 : 2;
            Check.due("24 timesSeen() behind move " + (count + 1), seen, hall::timesSeen);
            stands("21 it goes on", hall, 1, 0, 0, 0);
        }
        hall.keep(0);
        Check.go(hall, "e3", "d3");
        Check.due("24 for the third time", 3, hall::timesSeen);
        stands("21 drawn", hall, 4, 0, 0, 1);
        Check.due("22 turn()", "throws." + STATE, hall::turn);
        Check.due("23 moves()", 8, hall::moves);
        Check.refused("7 behind a draw", STATE, hall, () -> Check.go(hall, "d1", "c1"));
        hall.undo();
        stands("21 the draw undone", hall, 1, 0, 0, 0);
        Check.due("24 undone", 2, hall::timesSeen);
        Check.go(hall, "e3", "d3");
        stands("21 drawn again", hall, 4, 0, 0, 1);
        hall.goBack(0);
        stands("21 gone back", hall, 1, 0, 0, 0);
        Check.due("24 gone back", 2, hall::timesSeen);
        Check.go(hall, "e3", "f3");
        Check.due("24 another position", 1, hall::timesSeen);
    }

    /** A table comes back in three moves, a guard in two: the pieces are alike, the side is not. */
    private static void seenBySide() {
        HallGuards hall = new HallGuards();
        Check.go(hall, "d1", "c1");
        Check.go(hall, "d3", "e3");
        Check.go(hall, "c1", "b1");
        Check.go(hall, "e3", "d3");
        Check.go(hall, "b1", "d1");
        Check.due("24 the same pieces, the other side", 1, hall::timesSeen);
        Check.go(hall, "d3", "e3");
        Check.go(hall, "d1", "c1");
        Check.go(hall, "e3", "d3");
        Check.due("24 as never before", 1, hall::timesSeen);
        Check.go(hall, "c1", "d1");
        Check.due("24 for the second time", 2, hall::timesSeen);
    }

    private static void seenInThisGameOnly() {
        HallGuards hall = new HallGuards();
        for (int count = 0; count < 4; count++) {
            Check.go(hall, ROUND[count][0], ROUND[count][1]);
        }
        Check.due("24 twice", 2, hall::timesSeen);
        hall.setUp();
        Check.due("24 a new game", 1, hall::timesSeen);
        for (int count = 0; count < 8; count++) {
            hall.turnStrong();
            Check.go(hall, ROUND[count % 4][0], ROUND[count % 4][1]);
        }
        Check.due("24 however strong the king", 3, hall::timesSeen);
        stands("21 drawn", hall, 4, 0, 0, 1);
        Check.due("44 allMoves()", 12, hall::allMoves);
        hall.setUp();
        Check.due("42 draws() stays", 1, hall::draws);
        Check.due("23 moves()", 0, hall::moves);
    }

    private static void wouldWin() {
        HallGuards hall = Check.board(".......", "T..KT..", "......T", ".......", "..G....", ".......", "...T...");
        Check.due("31 without a game", true, () -> hall.wouldWin(Check.at("a2"), Check.at("c2")));
        Check.due("31 the king to the edge", false, () -> hall.wouldWin(Check.at("d2"), Check.at("d1")));
        hall.start(1);
        Check.due("31 whoever's turn it is", true, () -> hall.wouldWin(Check.at("a2"), Check.at("c2")));
        hall.turnStrong();
        Check.due("31 the strong king is not taken", false, () -> hall.wouldWin(Check.at("a2"), Check.at("c2")));
        HallGuards corner = Check.board("K......", "..T....", ".......", "......G");
        Check.due("31 from corner to corner", true, () -> corner.wouldWin(0, 6));
        Check.due("31 out of a corner", false, () -> corner.wouldWin(0, 5));
        Check.due("31 a guard, with the king in a corner", false, () -> corner.wouldWin(27, 20));
    }

    private static void wouldWinWithoutKing() {
        HallGuards hall = Check.board(".......", "..T....");
        Check.due("31 nobody is left to move", true, () -> hall.wouldWin(9, 8));
        Check.due("32 all of them", 12, () -> hall.winningMoves(0));
        Check.due("32 none", 0, () -> hall.winningMoves(1));
        hall.put(5, 5, 2);
        Check.due("31 there is no king to take", false, () -> hall.wouldWin(9, 8));
        Check.due("32 none any more", 0, () -> hall.winningMoves(0));
    }

    private static void winningMoves() {
        HallGuards hall = Check.board(".......", "T..KT..", "..T....", ".......", "..G....", ".......", ".......");
        Check.due("32 of the tables", 2, () -> hall.winningMoves(0));
        Check.due("32 of the king", 0, () -> hall.winningMoves(1));
        HallGuards edge = Check.board("...K...", "T......");
        Check.due("32 to two corners", 2, () -> edge.winningMoves(1));
        Check.due("32 at first", 0, () -> new HallGuards().winningMoves(0));
    }

    private static void refused() {
        HallGuards hall = new HallGuards();
        int[][] wrong = {{-1, 0}, {49, 0}, {0, -1}, {0, 49}, {Integer.MIN_VALUE, 0}, {3, Integer.MAX_VALUE}};
        for (int[] squares : wrong) {
            Check.refused("30 wouldTake", OUT, hall, () -> hall.wouldTake(squares[0], squares[1]));
            Check.refused("31 wouldWin", OUT, hall, () -> hall.wouldWin(squares[0], squares[1]));
        }
        int[][] impossible = {{0, 1}, {3, 3}, {3, 11}, {3, 10}, {3, 0}, {24, 24}};
        for (int[] squares : impossible) {
            Check.refused("30 wouldTake", STATE, hall, () -> hall.wouldTake(squares[0], squares[1]));
            Check.refused("31 wouldWin", STATE, hall, () -> hall.wouldWin(squares[0], squares[1]));
        }
        for (int side : new int[] {-1, 2}) {
            Check.refused("32 winningMoves", OUT, hall, () -> hall.winningMoves(side));
        }
    }
}
