/** Promises 39 and 40: what moves are worth, and the best of them. */
public final class AdviceTests {
    private static final String OUT = "IndexOutOfBoundsException";
    private static final String STATE = "IllegalStateException";

    public static void main(String[] args) {
        worth();
        bestMove();
        bestByWorth();
        refused();
        Check.end("AdviceTests");
    }

    private static void worth(String what, int want, HallGuards hall, String from, String to) {
        Check.due("39 " + what, want, () -> hall.worthOf(Check.at(from), Check.at(to)));
    }

    private static void worth() {
        HallGuards first = new HallGuards();
        worth("nothing", 0, first, "d1", "b1");
        HallGuards king = Check.board("...K...", ".......", "T.....T");
        worth("into a corner", 1000, king, "d1", "a1");
        worth("of a table, with two ways to corners open", -200, king, "a3", "b3");
        worth("of a table, that shuts one of them", -100, Check.board("...K...", ".......", ".T....T"), "b3", "b1");
        worth("of the king away from the edge", 0, king, "d1", "d6");
        HallGuards taking = Check.board(".......", "T..KT..", "..T....", ".......", "......G", "TG.....", "...T...");
        worth("takes the king", 1000, taking, "a2", "c2");
        worth("of a guard, with two ways to the king open", -200, taking, "g5", "f5");
        worth("of a guard, with one open yet", -100, taking, "b6", "b2");
        worth("of the king, out of reach", 0, taking, "d2", "d1");
        HallGuards both = Check.board(".......", "T..KT..", ".......", ".......", ".......", ".GT....", "...G...");
        worth("takes one, and the king is taken behind it", 20 - 100, both, "d7", "d6");
        HallGuards several = Check.board(".......", ".......", ".TG.GT.", ".......", ".......", ".......", ".K.T...");
        worth("takes two, with a way to a corner open", 40 - 200, several, "d7", "d3");
        worth("takes the king at a corner", 1000, several, "d7", "c7");
        HallGuards last = Check.board(".......", "..GT...", "....G..", ".......", "K......");
        worth("takes the last table", 1000, last, "e3", "e2");
        worth("leaves the last table", 0, last, "e3", "f3");
    }

    private static void best(String what, Object want, HallGuards hall, int side) {
        Check.due("40 " + what, want, () -> hall.bestMove(side));
    }

    private static int code(String from, String to) {
        return 49 * Check.at(from) + Check.at(to);
    }

    private static void bestMove() {
        HallGuards first = new HallGuards();
        best("of several the first one", code("d1", "b1"), first, 0);
        best("of several the first one, side 1", code("d3", "a3"), first, 1);
        HallGuards king = Check.board("...K...", ".......", "T.....T");
        best("into the first corner", code("d1", "a1"), king, 1);
        HallGuards taking = Check.board(".......", "T..KT..", "..T....");
        best("takes the king", code("a2", "c2"), taking, 0);
        HallGuards one = Check.board(".......", "..GT...", "....G..", ".......", "...K...", ".T.....");
        best("takes a table", code("e3", "e2"), one, 1);
        HallGuards stuck = Check.board("..TKT..", "...T...");
        best("none", "throws." + STATE, stuck, 1);
        best("without a piece", "throws." + STATE, Check.board("...K..."), 0);
    }

    /** The best is the first of those that worthOf tells to be worth the most. */
    private static void bestByWorth() {
        String[][] boards = {
            {"...T...", "...T...", "...G...", "TTGKGTT", "...G...", "...T...", "...T..."},
            {".T.....", "..K.T..", "T......", "..G...T", ".G.....", "..T.G..", "...T..."},
            {"...K...", ".......", "T.....T", ".......", "..G....", ".......", "...T..."},
            {".......", "T..KT..", "..T....", ".......", "......G", "TG.....", "...T..."}};
        for (String[] rows : boards) {
            for (int side = 0; side < 2; side++) {
                HallGuards hall = Check.board(rows);
                int best = hall.moveAt(side, 0);
                for (int place = 0; place < hall.movesByPieces(side); place++) {
                    int move = hall.moveAt(side, place);
                    if (hall.worthOf(move / 49, move % 49) > hall.worthOf(best / 49, best % 49)) {
                        best = move;
                    }
                }
                best("the first that is worth the most", best, hall, side);
            }
        }
    }

    private static void refused() {
        HallGuards hall = new HallGuards();
        int[][] wrong = {{-1, 0}, {49, 0}, {0, -1}, {0, 49}, {Integer.MIN_VALUE, 0}, {3, Integer.MAX_VALUE}};
        for (int[] squares : wrong) {
            Check.refused("39 worthOf", OUT, hall, () -> hall.worthOf(squares[0], squares[1]));
        }
        int[][] impossible = {{0, 1}, {3, 3}, {3, 11}, {3, 10}, {3, 0}, {24, 24}};
        for (int[] squares : impossible) {
            Check.refused("39 worthOf", STATE, hall, () -> hall.worthOf(squares[0], squares[1]));
        }
        for (int side : new int[] {-1, 2, Integer.MAX_VALUE}) {
            Check.refused("40 bestMove", OUT, hall, () -> hall.bestMove(side));
        }
        hall.clearBoard();
        Check.refused("40 no move", STATE, hall, () -> hall.bestMove(1));
    }
}
