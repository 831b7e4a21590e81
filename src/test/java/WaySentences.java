/** The sentences of the promises 34 to 40. */
final class WaySentences extends Sentences {
    private static final String[] CANNOT = {"a1b1", "d1d1", "d1e2", "d1d2", "d1d5", "d1a1", "d1g1", "c4d4", "g4a5"};
    private static final String SHUT_CORNERS = ".T...T/T.....T/...K///T.....T/.T...T";
    /** Six moves from b2 over the throne to a7. */
    private static final String WINDING = ".TTTTT/TK...T/TTTT.T/T....T/T.TTTTT/......T/.T...T";

    private WaySentences() {
    }

    static void all() {
        byRounds();
        byCorners();
        openCorners();
        kingReach();
        kingPressure();
        worthOf();
        worths();
        bestMove();
        bestMoveRefused();
    }

    private static void way(String what, int want, String rows) {
        HallGuards hall = board(rows);
        due(what + " by rounds", want, hall::kingMovesByRounds);
        due(what + " by corners", want, hall::kingMovesByCorners);
    }

    private static void byRounds() {
        at("Promise 34");
        says("Tells in how many moves the king could come to a corner");
        way("at the edge", 1, "...K");
        way("in the middle", 2, "/...K");
        HallGuards game = game(0, "/T..K");
        due("in a game of the side 0", 2, game::kingMovesByRounds);
        says("Returns the moves.");
        for (int corner : CORNERS) {
            HallGuards hall = cleared();
            hall.put(corner / 7, corner % 7, 3);
            due("none in the corner " + corner, 0, hall::kingMovesByRounds);
        }
        way("one", 1, ".T.K");
        way("two round guards", 2, ".G.K.G");
        way("two over the throne", 2, "/...T/..TKT/..T.T/..T.T/..T.T");
        way("three, by the throne", 3, "/...T/..TKT//...T");
        way("three, by a passage", 3, "...T/..TK.T/...TT");
        way("six", 6, WINDING);
        says("Throws `IllegalStateException`");
        HallGuards empty = cleared();
        refused("no king", STATE, empty, empty::kingMovesByRounds);
        HallGuards first = new HallGuards();
        refused("at first", STATE, first, first::kingMovesByRounds);
        HallGuards shut = board(SHUT_CORNERS);
        refused("all corners shut", STATE, shut, shut::kingMovesByRounds);
    }

    private static void byCorners() {
        at("Promise 35");
        says("Tells the same, corner by corner");
        way("the first corner the nearest", 1, "...KT");
        way("the second corner the nearest", 1, "..TK");
        way("the third corner the nearest", 1, "//////...KT");
        way("the last corner the nearest", 1, "//////..TK");
        says("Returns the moves, as many as by kingMovesByRounds().");
        for (int square = 0; square < 49; square++) {
            HallGuards hall = cleared();
            hall.put(square / 7, square % 7, 3);
            int sides = (square / 7 % 6 == 0 ? 1 : 0) + (square % 7 % 6 == 0 ? 1 : 0);
            due("alone on " + square, 2 - sides, hall::kingMovesByCorners);
            due("by rounds on " + square, 2 - sides, hall::kingMovesByRounds);
        }
        due("six", 6, () -> board(WINDING).kingMovesByCorners());
        says("Throws `IllegalStateException`");
        HallGuards empty = cleared();
        refused("no king", STATE, empty, empty::kingMovesByCorners);
        HallGuards first = new HallGuards();
        refused("at first", STATE, first, first::kingMovesByCorners);
        HallGuards shut = board(SHUT_CORNERS);
        refused("all corners shut", STATE, shut, shut::kingMovesByCorners);
    }

    private static void openCorners() {
        at("Promise 36");
        says("Returns to how many corners the king could come in one move.");
        due("two", 2, () -> board("...K").openCorners());
        due("one", 1, () -> board("...K.T").openCorners());
        due("two along a column", 2, () -> board("////K").openCorners());
        due("not the one where he is", 2, () -> board("K").openCorners());
        due("one from a corner", 1, () -> board("K.G").openCorners());
        due("none in two moves", 0, () -> board("/.K").openCorners());
        says("Returns 0 to 4.");
        due("no king", 0, () -> board("...T").openCorners());
        due("at first", 0, () -> new HallGuards().openCorners());
        due("shut in", 0, () -> board(".T.K.T").openCorners());
        due("in a corner, shut in", 0, () -> board("KT/T").openCorners());
        due("all squares together", 48, () -> {
            int sum = 0;
            for (int square = 0; square < 49; square++) {
                HallGuards hall = cleared();
                hall.put(square / 7, square % 7, 3);
                sum += hall.openCorners();
            }
            return sum;
        });
    }

    private static void kingReach() {
        at("Promise 37");
        says("Returns to how many squares the king could come in any number of moves");
        due("shut in with three", 3, () -> board("..TK.T/..T..T/...TT").kingReach());
        due("the winding way", 19, () -> board(WINDING).kingReach());
        due("on from a corner", 5, () -> board("...KT/.TTT/.T/T").kingReach());
        due("less the pieces", 45, () -> board("...K/T...G//.T").kingReach());
        says("Returns the squares, that where he is not counted");
        due("no king", 0, () -> board("...T").kingReach());
        due("nothing on the board", 0, () -> cleared().kingReach());
        due("at first", 0, () -> new HallGuards().kingReach());
        due("all but his own", 48, () -> board("K").kingReach());
        due("all but his own on the throne", 48, () -> board("///...K").kingReach());
        due("on both sides of him", 3, () -> board(".TTTTT/T.K..T/TTTTTT").kingReach());
        due("one", 1, () -> board("..TK.T/...TT").kingReach());
    }

    private static void kingPressure() {
        at("Promise 38");
        says("Returns how many of the squares beside the king are hostile");
        due("two tables", 2, () -> board("..TKT/...G").kingPressure());
        due("the empty throne", 1, () -> board("//..GK").kingPressure());
        due("a corner", 1, () -> board(".K").kingPressure());
        due("a corner in his column", 1, () -> board("/////......K").kingPressure());
        due("on the throne", 1, () -> board("//...T/...K").kingPressure());
        says("Returns 0 to 4.");
        due("at first", 0, () -> new HallGuards().kingPressure());
        due("alone", 0, () -> board("/.K").kingPressure());
        due("in a corner", 0, () -> board("K").kingPressure());
        due("not at the end of the row before", 0, () -> board("/......T/K.....T").kingPressure());
        due("not at the begin of the row behind", 0, () -> board("//T.....K/T").kingPressure());
        due("three at the edge", 3, () -> board("..TKT/...T").kingPressure());
        due("four", 4, () -> board("...T/..TKT/...T").kingPressure());
        due("four, the throne too", 4, () -> board("//..T/.TK/..T").kingPressure());
        says("Throws `IllegalStateException`");
        HallGuards none = board("...T");
        refused("no king", STATE, none, none::kingPressure);
    }

    private static void worth(String what, int want, String rows, String move) {
        HallGuards hall = board(rows);
        due(what, want, () -> hall.worthOf(from(move), to(move)));
    }

    private static void worthOf() {
        at("Promise 39");
        says("Returns what a move is worth for the side of the piece.");
        worth("for the side 0", -200, "...K//T.....T", "a3b3");
        worth("for the side 1", 1000, "...K//T.....T", "d1a1");
        due("whoever's turn it is", 1000, () -> game(0, "...K//T.....T").worthOf(3, 0));
        HallGuards hall = new HallGuards();
        says("- `from`: 0 to 48");
        range(0, 48, OUT, hall, from -> hall.worthOf(from, 1));
        says("- `to`: 0 to 48, likewise");
        range(0, 48, OUT, hall, to -> hall.worthOf(3, to));
        says("Throws `IndexOutOfBoundsException`");
        refused("from 49", OUT, hall, () -> hall.worthOf(49, 0));
        refused("from -1", OUT, hall, () -> hall.worthOf(-1, 0));
        refused("to 49", OUT, hall, () -> hall.worthOf(3, 49));
        refused("to -1", OUT, hall, () -> hall.worthOf(3, -1));
        says("Throws `IllegalStateException`");
        for (String move : CANNOT) {
            refused(move, STATE, hall, () -> hall.worthOf(from(move), to(move)));
        }
    }

    private static void worths() {
        says("Returns 1000 if it would win");
        worth("nothing", 0, "...T/...T/...G/TTGKGTT/...G/...T/...T", "d1b1");
        worth("takes the king", 1000, "/T..KT", "a2c2");
        worth("takes the king, and a guard has moves", 1000, "/T..KT/////.G", "a2c2");
        worth("takes the king and a guard", 1000, "//.TG.KT////...T", "d7d3");
        worth("leaves no move", 1000, ".TG/....G/////...K", "e2b2");
        worth("leaves nobody", 1000, "/..GT/....G//.K", "e3e2");
        worth("takes one", 20, "/T..GT///...K", "a2c2");
        worth("takes two", 40, "//.TG.GT//.K//...T", "d7d3");
        worth("takes three", 60, "...T/...G/.TG.GT//.K//...T", "d7d3");
        worth("one answer would win", -100, "...K//.T....T", "b3b1");
        worth("two answers would win", -200, "...K//.T....T", "b3c3");
        worth("takes two, two answers would win", 40 - 200, "//.TG.GT////.K.T", "d7d3");
        worth("takes one, and the king is taken behind it", 20 - 100, "/T..KT////.GT/...G", "d7d6");
        worth("the king leaves a square where he would be taken", 0, "/T..KT", "d2d1");
        worth("the king comes to one where he would be taken", -100, "...K/T...T", "d1d2");
    }

    private static void best(String what, String want, String rows, int side) {
        HallGuards hall = board(rows);
        due(what, code(want), () -> hall.bestMove(side));
        due(what + ", by worthOf()", bestByWorth(hall, side), () -> hall.bestMove(side));
    }

    private static int bestByWorth(HallGuards hall, int side) {
        int best = hall.moveAt(side, 0);
        for (int place = 1; place < hall.movesByPieces(side); place++) {
            int move = hall.moveAt(side, place);
            if (hall.worthOf(move / 49, move % 49) > hall.worthOf(best / 49, best % 49)) {
                best = move;
            }
        }
        return best;
    }

    private static void bestMove() {
        at("Promise 40");
        says("Finds the move of a side that is worth the most");
        best("takes the king", "a2c2", "/T..KT", 0);
        best("takes a guard", "a2c2", ".T/T..GT///...K", 0);
        best("takes a table", "e3e2", "/..GT/....G//...K/.T", 1);
        best("the last of all", "c6c7", "//...K///..T/.G", 0);
        best("shuts one of two ways", "b3b1", "...K//.T....T", 0);
        says("Returns 49 times the square from");
        due("at first", 148, () -> new HallGuards().bestMove(0));
        due("at first, the side 1", 847, () -> new HallGuards().bestMove(1));
        best("the first of two corners", "d1a1", "...K//T.....T", 1);
        best("the first of those that lose", "a6a2", "...K/////T", 0);
        best("the first of those that win", "c1c2", "..T/T..KT", 0);
    }

    private static void bestMoveRefused() {
        HallGuards hall = new HallGuards();
        says("- `side`: 0 or 1");
        range(0, 1, OUT, hall, hall::bestMove);
        says("Throws `IndexOutOfBoundsException`");
        refused("side -1", OUT, hall, () -> hall.bestMove(-1));
        refused("side 2", OUT, hall, () -> hall.bestMove(2));
        says("Throws `IllegalStateException`");
        HallGuards none = board("...K");
        refused("no piece", STATE, none, () -> none.bestMove(0));
        HallGuards shut = board("..TKT/...T");
        refused("no move", STATE, shut, () -> shut.bestMove(1));
    }
}
