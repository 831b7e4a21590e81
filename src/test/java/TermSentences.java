import java.lang.reflect.Method;
import java.lang.reflect.Modifier;
import java.util.ArrayList;
import java.util.List;

/** The sentences of "What it is" and of "Terms", up to those of games. */
final class TermSentences extends Sentences {
    private static final String[] TABLE_WAY = "a2 b2 c2 c3 c4 c5 c6 b6 a6 a5 a4".split(" ");
    private static final String[] KING_WAY = "e2 f2 g2 g3 g4 g5 g6 f6 e6 e5 e4 e3".split(" ");

    private TermSentences() {
    }

    static void all() {
        whatItIs();
        calls();
        terms();
        squares();
        throneAndCorners();
        pieces();
        straightMoves();
        stops();
        hostile();
        taking();
        notTaking();
        onTheBoard();
        betweenHostileSquares();
        atOnce();
        kingByTwo();
        kingByFour();
        kingBesideTheThrone();
        strongKing();
    }

    private static void whatItIs() {
        at("What it is");
        says("King's escape from a hall of hostile tables");
        HallGuards escape = game(1, "/...K/T");
        goAll(escape, "d2d1;a3b3;d1a1");
        due("he escapes", 3, escape::standing);
    }

    /** The ways of the two are of 11 and of 12 squares, so that they meet again behind 264 moves. */
    private static void calls() {
        says("An object is used for at most 512 calls");
        HallGuards hall = new HallGuards();
        due("call 1", 13, hall::clearBoard);
        due("call 2", 0, () -> hall.put(1, 0, 1));
        due("call 3", 0, () -> hall.put(1, 4, 3));
        due("call 4", 7, () -> hall.start(0));
        for (int ply = 0; ply < 506; ply++) {
            String[] way = ply % 2 == 0 ? TABLE_WAY : KING_WAY;
            Check.go(hall, way[ply / 2 % way.length], way[(ply / 2 + 1) % way.length]);
        }
        due("call 511", 2, hall::timesSeen);
        due("call 512", 506, hall::moves);
    }

    private static void terms() {
        at("Terms");
        says("A clamped guard is taken.");
        takes("between two tables", 0, "a2c2", 1, "/T..GT/////.K", "/..T.T/////.K");
        takes("between a table and a corner", 0, "g3a3", 1, "/G/......T////...K", "//T////...K");
        takes("between a table and the empty throne", 0, "b1b4", 1, ".T///..G///...K", "///.T///...K");
        says("All numbers are integers, but for a mean.");
        List<String> others = new ArrayList<>();
        for (Method method : HallGuards.class.getDeclaredMethods()) {
            Class<?> type = method.getReturnType();
            if (Modifier.isPublic(method.getModifiers()) && (type == double.class || type == float.class)) {
                others.add(method.getName());
            }
        }
        due("what is none", List.of("meanMoves"), () -> others);
    }

    private static void squares() {
        at("The board");
        says("The board has 49 squares");
        HallGuards hall = cleared();
        for (int square = 0; square < 49; square++) {
            int row = square / 7;
            int column = square % 7;
            hall.put(row, column, 3);
            due("the king on " + square, square, hall::kingAt);
            due("the piece on " + square, 3, () -> hall.pieceAt(row, column));
            hall.put(row, column, 0);
        }
        refused("no row 7", OUT, hall, () -> hall.pieceAt(7, 0));
        refused("no column 7", OUT, hall, () -> hall.pieceAt(0, 7));
        refused("no square 49", OUT, hall, () -> hall.canMove(0, 49));
        refused("no square -1", OUT, hall, () -> hall.canMove(-1, 0));
    }

    private static void throneAndCorners() {
        says("The throne is the square in the row 3");
        HallGuards hall = cleared();
        List<Integer> hostile = new ArrayList<>();
        List<Integer> forTheKing = new ArrayList<>();
        for (int square = 0; square < 49; square++) {
            int row = square / 7;
            int column = square % 7;
            if (hall.isHostile(row, column, 0) && hall.isHostile(row, column, 1)) {
                hostile.add(square);
            }
            if (Check.answerOf(() -> hall.put(row, column, 1)).equals("throws." + STATE)) {
                forTheKing.add(square);
            } else {
                hall.put(row, column, 0);
            }
        }
        due("hostile with nothing on the board", List.of(0, 6, 24, 42, 48), () -> hostile);
        due("no place for a table", List.of(0, 6, 24, 42, 48), () -> forTheKing);
    }

    private static void pieces() {
        says("The side 0 has tables");
        HallGuards hall = board(".TTTT/GG/.K");
        due("the tables", 4, () -> hall.piecesOf(0));
        due("the guards and the king", 3, () -> hall.piecesOf(1));
        says("Set up there are the king on the throne");
        HallGuards first = new HallGuards();
        due("the pieces", "...T.../...T.../...G.../TTGKGTT/...G.../...T.../...T...", () -> Check.drawn(first));
        due("a game goes on", 1, first::standing);
        due("the side 0 moves first", 0, first::turn);
    }

    /** reasonAgainst() of the piece on the square, for all squares to. */
    private static void reasons(String what, String want, String rows, String square) {
        HallGuards hall = board(rows);
        StringBuilder text = new StringBuilder();
        for (int to = 0; to < 49; to++) {
            text.append(to > 0 && to % 7 == 0 ? "/" : "").append(hall.reasonAgainst(Check.at(square), to));
        }
        due(what, want, text::toString);
    }

    private static void straightMoves() {
        says("A piece is moved to another square in the same row or column");
        reasons("alone", "2202222/2202222/2202222/0020000/2202222/2202222/2202222", "///..K", "c4");
        reasons("in a corner", "2222220/2222220/2222220/2222220/2222220/2222220/0000002", "//////......K", "g7");
        reasons("at the end of a row", "2222220/2222220/2222220/0000002/2222220/2222220/2222220", "///......K", "g4");
        reasons("at the begin of a row", "0222222/0222222/2000000/0222222/0222222/0222222/0222222", "//K", "a3");
        reasons("on a square", "2202222/3320033/2202222/2202222/2202222/2232222/2232222", "/.TK..G////..T", "c2");
    }

    private static void stops() {
        says("Only the king may stop on the throne and in corners");
        for (String piece : new String[] {"T", "G"}) {
            reasons("corners", "4020004/2202222/2202222/2202222/2202222/2202222/2202222", ".." + piece, "c1");
            reasons("more corners", "2222224/2222220/2222220/2222220/2222220/0000002/2222224",
                    "/////......" + piece, "g6");
            reasons("over the throne", "2202222/2202222/2202222/0024000/2202222/2202222/2202222",
                    "///.." + piece, "c4");
            reasons("over the throne, upright", "2220222/2220222/2220222/2224222/0002000/2220222/2220222",
                    "////..." + piece, "d5");
        }
        reasons("the king in corners", "0020000/2202222/2202222/2202222/2202222/2202222/2202222", "..K", "c1");
        reasons("the king on the throne", "2202222/2202222/2202222/0020000/2202222/2202222/2202222", "///..K", "c4");
    }

    private static void hostileTo(String rows, String square, boolean tables, boolean guards) {
        HallGuards hall = board(rows);
        int row = Check.at(square) / 7;
        int column = Check.at(square) % 7;
        due(square + " to the tables", tables, () -> hall.isHostile(row, column, 0));
        due(square + " to the guards", guards, () -> hall.isHostile(row, column, 1));
    }

    private static void hostile() {
        at("Taking");
        says("A square is hostile to a side");
        for (String corner : new String[] {"a1", "g1", "a7", "g7"}) {
            hostileTo("", corner, true, true);
        }
        hostileTo("K", "a1", true, true);
        hostileTo("......K", "g1", true, true);
        hostileTo("//////K", "a7", true, true);
        hostileTo("//////......K", "g7", true, true);
        hostileTo("", "d4", true, true);
        hostileTo("///...K", "d4", true, false);
        hostileTo("/.T", "b2", false, true);
        hostileTo("/.G", "b2", true, false);
        hostileTo("/.K", "b2", true, false);
        hostileTo("", "b2", false, false);
        hostileTo("", "a4", false, false);
    }

    /** In a game of the side, what the move takes, as wouldTake() and move() tell it. */
    private static void takes(String what, int side, String move, int want, String before, String behind) {
        HallGuards hall = game(side, before);
        takesIn(hall, what, move, want, behind);
    }

    private static void takesIn(HallGuards hall, String what, String move, int want, String behind) {
        due(what + ", wouldTake", want, () -> hall.wouldTake(from(move), to(move)));
        due(what + ", move", want, () -> go(hall, move));
        due(what + ", pieces", full(behind), () -> Check.drawn(hall));
    }

    private static void taking() {
        says("When a piece of a side was moved, each table or guard of the other side");
        takes("to the right", 0, "a2c2", 1, "/T..GT/////.K", "/..T.T/////.K");
        takes("to the left", 0, "g2e2", 1, "/..TG..T/////.K", "/..T.T/////.K");
        takes("downward", 0, "a3c3", 1, "//T/..G/..T//.K", "//..T//..T//.K");
        takes("upward", 0, "a5c5", 1, "//..T/..G/T//.K", "//..T//..T//.K");
        takes("at a corner", 0, "c3c1", 1, ".G//..T////.K", "..T//////.K");
        takes("a table by guards", 1, "a2c2", 1, "/G..TG/////.K...T", "/..G.G/////.K...T");
        takes("a table by the king and a guard", 1, "a2c2", 1, "/K..TG/////.....T", "/..K.G/////.....T");
        takes("a table by a guard and the king", 1, "a2c2", 1, "/G..TK/////.....T", "/..G.K/////.....T");
        takes("a table at a corner", 1, "c3c1", 1, ".T//..G////.K...T", "..G//////.K...T");
        takes("a table at the king on the throne", 1, "b1b4", 1, ".G///..TK///.T", "///.G.K///.T");
    }

    private static void notTaking() {
        takes("nothing hostile behind it", 0, "a2c2", 0, "/T..G/////.K", "/..TG/////.K");
        takes("its own side behind it", 0, "a2c2", 0, "/T..GG/////.K", "/..TGG/////.K");
        takes("its own king behind it", 0, "a2c2", 0, "/T..GK", "/..TGK");
        takes("its own king on the throne behind it", 0, "a4b4", 0, "///T.GK", "///.TGK");
        takes("a table in another direction", 0, "a2c2", 0, "/T..G/...T////.K", "/..TG/...T////.K");
        takes("cornerwise", 0, "a2c2", 0, "/T/...G/....T///.K", "/..T/...G/....T///.K");
        takes("not the next square", 0, "a2b2", 0, "/T..GT/////.K", "/.T.GT/////.K");
        takes("clamped before", 0, "a2b2", 0, "/T///..TGT//.K", "/.T///..TGT//.K");
        takes("tables clamped before", 1, "a2b2", 0, "/G///..GTG//.K", "/.G///..GTG//.K");
    }

    private static void onTheBoard() {
        says("(It must be on the board.");
        takes("behind the end of a row", 0, "a2f2", 0, "/T.....G/T////.K", "/.....TG/T////.K");
        takes("before the begin of a row", 0, "e3b3", 0, "/......T/G...T////.K", "/......T/GT////.K");
        takes("above the first row", 0, "a2d2", 0, "...G/T/////.K", "...G/...T/////.K");
        takes("below the last row", 0, "a6d6", 0, ".K/////T/...G", ".K/////...T/...G");
        takes("a table at the edge", 1, "a2d2", 0, "...T/G/////.K", "...T/...G/////.K");
    }

    private static void betweenHostileSquares() {
        says("Nothing is taken by moving between hostile squares.)");
        takes("a guard between tables", 1, "d5d2", 0, "/..T.T///...G//.K", "/..TGT/////.K");
        takes("a guard between tables, upright", 1, "e3b3", 0, "/.T/....G/.T///...K", "/.T/.G/.T///...K");
        takes("a guard between a corner and a table", 1, "b4b1", 0, "..T///.G///...K", ".GT//////...K");
        takes("a guard between a table and the empty throne", 1, "c7c4", 0, "///.T///..G.K", "///.TG///....K");
        takes("a table between guards", 0, "d5d2", 0, "/..G.G///...T//.K", "/..GTG/////.K");
        takes("a table between a guard and the king", 0, "d5d2", 0, "/..G.K///...T", "/..GTK");
        takes("the king between tables", 1, "d6d2", 0, "/..T.T////...K", "/..TKT");
    }

    private static void atOnce() {
        says("All of these are looked at with the pieces as they are behind the move");
        takes("two", 0, "d7d3", 2, "//.TG.GT////.K.T", "//.T.T.T////.K");
        takes("three", 0, "d7d3", 3, "...T/...G/.TG.GT////.K.T", "...T//.T.T.T////.K");
        takes("three tables", 1, "d7d3", 3, "...G/...T/.GT.TK////...G.T", "...G//.G.G.K////.....T");
        takes("one of two", 0, "d7d3", 1, "//.TG.G////.K.T", "//.T.TG////.K");
        takes("a guard and the king", 0, "d7d3", 2, "//.TG.KT////...T", "//.T.T.T");
        takes("the moved one is the fourth", 0, "a4c4", 1, "//...T/T..KT/...T", "//...T/..T.T/...T");
    }

    private static void kingByTwo() {
        says("The king is taken likewise by a table that is moved beside him");
        due("at first he is not strong", false, () -> new HallGuards().isStrong());
        takes("by two", 0, "a2c2", 1, "/T..KT", "/..T.T");
        takes("by two, upright", 0, "a5b5", 1, "//.T/.K/T", "//.T//.T");
        takes("at a corner", 0, "c3c1", 1, ".K//..T", "..T");
        takes("at the edge", 0, "b7c7", 1, "//////.T.KT", "//////..T.T");
        takes("against the edge", 0, "a2d2", 0, "...K/T", "...K/...T");
        takes("against the edge, the next row", 0, "a2f2", 0, "/T.....K/T", "/.....TK/T");
        takes("cornerwise of the throne", 0, "a3b3", 1, "//T.KT", "//.T.T");
        takes("by a table elsewhere", 0, "a3b3", 0, "/..TKT/T", "/..TKT/.T");
        takes("by his own move", 1, "d6d2", 0, "/..T.T////...K", "/..TKT");
        takes("by a guard", 1, "a3d3", 0, "/..TKT/G", "/..TKT/...G");
        takes("with a guard behind him", 0, "a2c2", 0, "/T..KG", "/..TKG");
        takes("with nothing behind him", 0, "a2c2", 0, "/T..K", "/..TK");
    }

    private static void kingByFour() {
        takes("on the throne by two", 0, "a4c4", 0, "///T..KT", "///..TKT");
        takes("on the throne by three", 0, "a4c4", 0, "//...T/T..KT", "//...T/..TKT");
        takes("on the throne by three and a guard", 0, "a4c4", 0, "//...T/T..KT/...G", "//...T/..TKT/...G");
        takes("on the throne by four", 0, "g4e4", 1, "//...T/..TK..T/...T", "//...T/..T.T/...T");
    }

    private static void kingBesideTheThrone() {
        takes("above it by two", 0, "a3c3", 0, "//T..KT", "//..TKT");
        takes("above it by one and the throne", 0, "a2d2", 0, "/T/...K", "/...T/...K");
        takes("above it by three", 0, "a3c3", 1, "/...T/T..KT", "/...T/..T.T");
        takes("left of it by two", 0, "a3c3", 0, "//T/..K/..T", "//..T/..K/..T");
        takes("left of it by three", 0, "a3c3", 1, "//T/.TK/..T", "//..T/.T/..T");
        takes("right of it by two", 0, "g3e3", 0, "//......T/....K/....T", "//....T/....K/....T");
        takes("right of it by three", 0, "g3e3", 1, "//......T/....KT/....T", "//....T/.....T/....T");
        takes("below it by two", 0, "a5c5", 0, "////T..KT", "////..TKT");
        takes("below it by three", 0, "a5c5", 1, "////T..KT/...T", "////..T.T/...T");
        takes("below it by two and a guard", 0, "a5c5", 0, "////T..KT/...G", "////..TKT/...G");
    }

    private static void strong(String what, String move, int want, String before, String behind) {
        HallGuards hall = game(0, before);
        hall.turnStrong();
        takesIn(hall, "strong, " + what, move, want, behind);
    }

    private static void strongKing() {
        strong("by two", "a2c2", 0, "/T..KT", "/..TKT");
        strong("by three", "a2c2", 0, "...T/T..KT", "...T/..TKT");
        strong("by three and a guard", "a2c2", 0, "...T/T..KT/...G", "...T/..TKT/...G");
        strong("by four", "a2c2", 1, "...T/T..KT/...T", "...T/..T.T/...T");
        strong("by four that were there", "a5b5", 0, "...T/..TKT/...T//T//.G", "...T/..TKT/...T//.T//.G");
        strong("by three at the edge", "b1c1", 0, ".T.KT/...T", "..TKT/...T");
        strong("by two at a corner", "c3c1", 0, ".K/.T/..T", ".KT/.T");
        strong("a guard by two", "a2c2", 1, "/T..GT/////.K", "/..T.T/////.K");
        HallGuards weak = game(0, "/T..KT");
        weak.turnStrong();
        weak.turnStrong();
        takesIn(weak, "strong no more", "a2c2", 1, "/..T.T");
    }
}
