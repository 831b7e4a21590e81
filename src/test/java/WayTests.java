/** Promises 34 to 38: the way of the king. */
public final class WayTests {
    private static final String STATE = "IllegalStateException";

    public static void main(String[] args) {
        corners();
        ways();
        noWay();
        openCorners();
        kingReach();
        kingPressure();
        Check.end("WayTests");
    }

    private static void way(String what, Object want, String... rows) {
        HallGuards hall = Check.board(rows);
        Check.due("34 " + what, want, hall::kingMovesByRounds);
        Check.due("35 " + what, want, hall::kingMovesByCorners);
    }

    private static void corners() {
        for (int corner : new int[] {0, 6, 42, 48}) {
            HallGuards hall = new HallGuards();
            hall.clearBoard();
            hall.put(corner / 7, corner % 7, 3);
            Check.due("34 in a corner", 0, hall::kingMovesByRounds);
            Check.due("35 in a corner", 0, hall::kingMovesByCorners);
        }
    }

    private static void ways() {
        way("one move", 1, "...K...");
        way("one move, the other way", 1, ".T.K...");
        way("two moves", 2, ".......", "...K...");
        way("two moves round guards", 2, ".G.K.G.");
        way("two moves over the throne", 2,
                ".......", "...T...", "..TKT..", "..T.T..", "..T.T..", "..T.T..", ".......");
        way("three moves by the throne", 3, ".......", "...T...", "..TKT..", ".......", "...T...");
        way("three moves by a passage", 3, "...T...", "..TK.T.", "...TT..");
        way("three moves round the corner's tables", 3, "...T...", "..TKT..", "..T.T..", "..T.T..", "..T.T..", "..T....", ".TT..T.");
    }

    private static void noWay() {
        HallGuards first = new HallGuards();
        Check.refused("34 shut in", STATE, first, first::kingMovesByRounds);
        Check.refused("35 shut in", STATE, first, first::kingMovesByCorners);
        way("no king", "throws." + STATE, "...T...");
        way("all corners shut", "throws." + STATE,
                ".T...T.", "T.....T", "...K...", ".......", ".......", "T.....T", ".T...T.");
        way("all corners shut by guards", "throws." + STATE,
                ".G...G.", "G.....G", "...K...", ".......", ".......", "G.....G", ".G...G.");
    }

    private static void openCorners() {
        Check.due("36 at first", 0, () -> new HallGuards().openCorners());
        Check.due("36 no king", 0, () -> Check.board("...T...").openCorners());
        Check.due("36 two", 2, () -> Check.board("...K...").openCorners());
        Check.due("36 one", 1, () -> Check.board("...K.T.").openCorners());
        Check.due("36 none", 0, () -> Check.board(".T.K.T.").openCorners());
        Check.due("36 not at the edge", 0, () -> Check.board(".......", "...K...").openCorners());
        Check.due("36 from a corner", 2, () -> Check.board("K......").openCorners());
        Check.due("36 from a corner, one shut", 1, () -> Check.board("K......", "T......").openCorners());
    }

    private static void kingReach() {
        Check.due("37 at first", 0, () -> new HallGuards().kingReach());
        Check.due("37 no king", 0, () -> Check.board("...T...").kingReach());
        Check.due("37 an empty board", 48, () -> Check.board("...K...").kingReach());
        Check.due("37 less the pieces", 45, () -> Check.board("...K...", "T...G..", ".......", ".T.....").kingReach());
        Check.due("37 shut in with three squares", 3, () -> Check.board("..TK.T.", "..T..T.", "...TT..").kingReach());
        Check.due("37 the throne and over it", 3,
                () -> Check.board(".......", "...T...", "..TKT..", "..T.T..", "..T.T..", "..T.T..", "...T...").kingReach());
        Check.due("37 no corner", 2, () -> Check.board("...T.T.", "..TK.T.", "...TT..").kingReach());
        Check.due("37 on from a corner", 5,
                () -> Check.board("...KT..", ".TTT...", ".T.....", "T......").kingReach());
    }

    private static void kingPressure() {
        Check.due("38 at first", 0, () -> new HallGuards().kingPressure());
        HallGuards none = Check.board("...T...");
        Check.refused("38 no king", STATE, none, none::kingPressure);
        Check.due("38 tables", 2, () -> Check.board("..TKT..", "...G...").kingPressure());
        Check.due("38 four", 4, () -> Check.board("...T...", "..TKT..", "...T...").kingPressure());
        Check.due("38 the empty throne", 1, () -> Check.board(".......", ".......", "..GK...").kingPressure());
        Check.due("38 a corner", 1, () -> Check.board(".K.....").kingPressure());
        Check.due("38 in a corner", 1, () -> Check.board("KT.....").kingPressure());
        Check.due("38 not behind the edge", 0, () -> Check.board(".......", "......T", "K.....T").kingPressure());
        Check.due("38 on the throne", 1, () -> Check.board(".......", ".......", "...T...", "...K...").kingPressure());
    }
}
