/** The taking of promises 7 and 30: by two, at hostile squares, and the king by two or by four. */
public final class TakingTests {
    private static boolean strong = false;

    public static void main(String[] args) {
        byTwo();
        atHostileSquares();
        notTaken();
        severalAtOnce();
        kingByTwo();
        kingByFourOnTheThrone();
        kingByFourBesideTheThrone();
        strongKing();
        Check.end("TakingTests");
    }

    /** In a game of the side: what the move would take, what it takes, and the pieces behind it. */
    private static void takes(String what, int side, String move, int want, String before, String behind) {
        HallGuards hall = Check.board(before.split("/"));
        if (strong) {
            hall.turnStrong();
        }
        hall.start(side);
        int from = Check.at(move.substring(0, 2));
        int to = Check.at(move.substring(2));
        Check.due(what + ", wouldTake", want, () -> hall.wouldTake(from, to));
        Check.due(what + ", nothing is changed", before, () -> Check.drawn(hall));
        Check.due(what + ", move", want, () -> hall.move(from, to));
        Check.due(what + ", pieces", behind, () -> Check.drawn(hall));
        Check.due(what + ", takenOf", want, () -> hall.takenOf(1 - side));
        Check.due(what + ", takenOf its own", 0, () -> hall.takenOf(side));
    }

    private static void byTwo() {
        takes("a table between guards", 1, "e3e2", 1,
                "......./..GT.../....G../......./......./......./..K..T.",
                "......./..G.G../......./......./......./......./..K..T.");
        takes("a guard between tables", 0, "e3e2", 1,
                "......./..TG.../....T../......./......./......./..K....",
                "......./..T.T../......./......./......./......./..K....");
        takes("upward", 0, "a4c4", 1,
                "......./..T..../..G..../T....../......./......./.K.....",
                "......./..T..../......./..T..../......./......./.K.....");
        takes("downward", 0, "a4c4", 1,
                "......./......./......./T....../..G..../..T..../.K.....",
                "......./......./......./..T..../......./..T..../.K.....");
        takes("to the right", 0, "a2c2", 1,
                "......./T..GT../......./......./......./......./.K.....",
                "......./..T.T../......./......./......./......./.K.....");
        takes("a table between a guard and the king", 1, "e4e2", 1,
                "......./..KT.../......./....G../......./......./.T.....",
                "......./..K.G../......./......./......./......./.T.....");
        takes("a table by the king's move", 1, "c3c2", 1,
                "......./...TG../..K..../......./......./......./.T.....",
                "......./..K.G../......./......./......./......./.T.....");
    }

    private static void atHostileSquares() {
        takes("a table at a corner", 1, "c3c1", 1,
                ".T...../......./..G..../......./K....../......./.....T.",
                "..G..../......./......./......./K....../......./.....T.");
        takes("a guard at a corner", 0, "e5a5", 1,
                "......./......./......./......./....T../G....../.K.....",
                "......./......./......./......./T....../......./.K.....");
        takes("a guard at the corner on the right", 0, "e5e7", 1,
                "......./......./......./......./....T../......./.K...G.",
                "......./......./......./......./......./......./.K..T..");
        takes("a table at the empty throne", 1, "b6b4", 1,
                "......./......./......./..T..../......./.G...../.K...T.",
                "......./......./......./.G...../......./......./.K...T.");
        takes("a guard at the empty throne", 0, "a6d6", 1,
                "......./......./......./......./...G.../T....../.K.....",
                "......./......./......./......./......./...T.../.K.....");
        takes("a table at the king's throne", 1, "b6b4", 1,
                "......./......./......./..TK.../......./.G...../.....T.",
                "......./......./......./.G.K.../......./......./.....T.");
        takes("a guard at the king's throne", 0, "b6b4", 0,
                "......./......./......./..GK.../......./.T...../.......",
                "......./......./......./.TGK.../......./......./.......");
        takes("a table beside the king's corner with nothing behind it", 1, "d1a1", 0,
                "...K.../T....../......./......./......./......./.....T.",
                "K....../T....../......./......./......./......./.....T.");
        takes("a table by the king in a corner and a guard", 1, "d1a1", 1,
                "...K.../T....../G....../......./......./......./.....T.",
                "K....../......./G....../......./......./......./.....T.");
    }

    private static void notTaken() {
        takes("a table that moves between guards", 0, "d5d2", 0,
                "......./..G.G../......./......./...T.../......./.K.....",
                "......./..GTG../......./......./......./......./.K.....");
        takes("a guard that moves between tables", 1, "d3d2", 0,
                "......./..T.T../...G.../......./......./......./.K.....",
                "......./..TGT../......./......./......./......./.K.....");
        takes("a king who moves between tables", 1, "d3d2", 0,
                "......./..T.T../...K.../......./......./......./.......",
                "......./..TKT../......./......./......./......./.......");
        takes("a table that moves between a corner and a guard", 0, "b4b1", 0,
                "..G..../......./......./.T...../......./......./.K.....",
                ".TG..../......./......./......./......./......./.K.....");
        takes("a guard with nothing behind it", 0, "a2c2", 0,
                "......./T..G.../......./......./......./......./.K.....",
                "......./..TG.../......./......./......./......./.K.....");
        takes("a guard with a guard behind it", 0, "a2c2", 0,
                "......./T..GG../......./......./......./......./.K.....",
                "......./..TGG../......./......./......./......./.K.....");
        takes("a guard with the king behind it", 0, "a2c2", 0,
                "......./T..GK../......./......./......./......./.......",
                "......./..TGK../......./......./......./......./.......");
        takes("a guard at the edge", 0, "a6c6", 0,
                "......./......./......./......./......./T....../.KG....",
                "......./......./......./......./......./..T..../.KG....");
        takes("a guard behind the edge of its row", 0, "a2f2", 0,
                "......./T.....G/T....../......./......./......./.K.....",
                "......./.....TG/T....../......./......./......./.K.....");
        takes("a guard cornerwise", 0, "a3c3", 0,
                "....T../...G.../T....../......./......./......./.K.....",
                "....T../...G.../..T..../......./......./......./.K.....");
        takes("two guards in a row between tables", 0, "a2b2", 0,
                "......./T.GGT../......./......./......./......./.K.....",
                "......./.TGGT../......./......./......./......./.K.....");
        takes("a table between guards that were there", 1, "f7e7", 0,
                "......./..GTG../......./......./......./......./.T...K.",
                "......./..GTG../......./......./......./......./.T..K..");
        takes("a guard between tables that were there", 0, "b7c7", 0,
                "......./..TGT../......./......./......./......./.T...K.",
                "......./..TGT../......./......./......./......./..T..K.");
    }

    private static void severalAtOnce() {
        takes("two guards", 0, "d7d3", 2,
                "......./......./.TG.GT./......./......./......./.K.T...",
                "......./......./.T.T.T./......./......./......./.K.....");
        takes("three guards", 0, "d7d3", 3,
                "...T.../...G.../.TG.GT./......./......./......./.K.T...",
                "...T.../......./.T.T.T./......./......./......./.K.....");
        takes("one of two", 0, "d7d3", 1,
                "......./......./.TG.G../......./......./......./.K.T...",
                "......./......./.T.TG../......./......./......./.K.....");
        takes("a guard and the king", 0, "d7d3", 2,
                "......./......./.TG.KT./......./......./......./...T...",
                "......./......./.T.T.T./......./......./......./.......");
        takes("three tables", 1, "d7d3", 3,
                "...G.../...T.../.GT.TK./......./......./......./...G.T.",
                "...G.../......./.G.G.K./......./......./......./.....T.");
    }

    private static void kingByTwo() {
        takes("a king between tables", 0, "a2c2", 1,
                "......./T..KT../......./......./......./......./.......",
                "......./..T.T../......./......./......./......./.......");
        takes("a king at a corner", 0, "c4c1", 1,
                ".K...../......./......./..T..../......./......./.......",
                "..T..../......./......./......./......./......./.......");
        takes("a king at the edge, along it", 0, "b7c7", 1,
                "......./......./......./......./......./......./.T.KT..",
                "......./......./......./......./......./......./..T.T..");
        takes("a king at the edge, against it", 0, "d2d6", 0,
                "......./...T.../......./......./......./......./...K...",
                "......./......./......./......./......./...T.../...K...");
        takes("a king with a guard behind him", 0, "a2c2", 0,
                "......./T..KG../......./......./......./......./.......",
                "......./..TKG../......./......./......./......./.......");
        takes("a king cornerwise to the throne", 0, "a3b3", 1,
                "......./......./T.KT.../......./......./......./.......",
                "......./......./.T.T.../......./......./......./.......");
        takes("a king two from the throne", 0, "d2f2", 1,
                "......./...T.../.....K./.....T./......./......./.......",
                "......./.....T./......./.....T./......./......./.......");
    }

    private static void kingByFourOnTheThrone() {
        takes("a king on the throne between two", 0, "a4c4", 0,
                "......./......./......./T..KT../......./......./.......",
                "......./......./......./..TKT../......./......./.......");
        takes("a king on the throne among three", 0, "a4c4", 0,
                "......./......./...T.../T..KT../......./......./.......",
                "......./......./...T.../..TKT../......./......./.......");
        takes("a king on the throne among three and a guard", 0, "a4c4", 0,
                "......./......./...T.../T..KT../...G.../......./.......",
                "......./......./...T.../..TKT../...G.../......./.......");
        takes("a king on the throne among four", 0, "a4c4", 1,
                "......./......./...T.../T..KT../...T.../......./.......",
                "......./......./...T.../..T.T../...T.../......./.......");
    }

    private static void kingByFourBesideTheThrone() {
        takes("a king above the throne between two", 0, "a3c3", 0,
                "......./......./T..KT../......./......./......./.......",
                "......./......./..TKT../......./......./......./.......");
        takes("a king above the throne against it", 0, "a2d2", 0,
                "......./T....../...K.../......./......./......./.......",
                "......./...T.../...K.../......./......./......./.......");
        takes("a king above the throne among three", 0, "a3c3", 1,
                "......./...T.../T..KT../......./......./......./.......",
                "......./...T.../..T.T../......./......./......./.......");
        takes("a king left of the throne between two", 0, "a3c3", 0,
                "......./......./T....../..K..../..T..../......./.......",
                "......./......./..T..../..K..../..T..../......./.......");
        takes("a king left of the throne against it", 0, "a4b4", 0,
                "......./......./......./T.K..../......./......./.......",
                "......./......./......./.TK..../......./......./.......");
        takes("a king left of the throne among three", 0, "a4b4", 1,
                "......./......./..T..../T.K..../..T..../......./.......",
                "......./......./..T..../.T...../..T..../......./.......");
        takes("a king right of the throne between two", 0, "a3e3", 0,
                "......./......./T....../....K../....T../......./.......",
                "......./......./....T../....K../....T../......./.......");
        takes("a king right of the throne among three", 0, "g3e3", 1,
                "......./......./......T/....KT./....T../......./.......",
                "......./......./....T../.....T./....T../......./.......");
        takes("a king below the throne, three already beside him", 0, "b7c7", 0,
                "......./......./......./......./..TKT../...T.../.T.....",
                "......./......./......./......./..TKT../...T.../..T....");
        takes("a king below the throne between two", 0, "a5c5", 0,
                "......./......./......./......./T..KT../......./.......",
                "......./......./......./......./..TKT../......./.......");
        takes("a king below the throne among three", 0, "d7d6", 1,
                "......./......./......./......./..TKT../......./...T...",
                "......./......./......./......./..T.T../...T.../.......");
    }

    private static void strongKing() {
        strong = true;
        takes("a strong king between two", 0, "a2c2", 0,
                "......./T..KT../......./......./......./......./.......",
                "......./..TKT../......./......./......./......./.......");
        takes("a strong king among three", 0, "a2c2", 0,
                "...T.../T..KT../......./......./......./......./.......",
                "...T.../..TKT../......./......./......./......./.......");
        takes("a strong king among four", 0, "a2c2", 1,
                "...T.../T..KT../...T.../......./......./......./.......",
                "...T.../..T.T../...T.../......./......./......./.......");
        takes("a strong king among three at the edge", 0, "b1c1", 0,
                ".T.KT../...T.../......./......./......./......./.......",
                "..TKT../...T.../......./......./......./......./.......");
        takes("a strong king at a corner", 0, "c4c1", 0,
                ".K...../.T...../......./..T..../......./......./.......",
                ".KT..../.T...../......./......./......./......./.......");
        takes("a strong king's guards are taken by two all the same", 0, "a2c2", 1,
                "......./T..GT../......./......./......./......./.K.....",
                "......./..T.T../......./......./......./......./.K.....");
        takes("a strong king on the throne among four", 0, "a4c4", 1,
                "......./......./...T.../T..KT../...T.../......./.......",
                "......./......./...T.../..T.T../...T.../......./.......");
        strong = false;
    }
}
