/** Promises 8 to 11: the buffer, its errors and its moves. */
public final class TextTests {
    private static final String ARGUMENT = "IllegalArgumentException";
    private static final String STATE = "IllegalStateException";

    public static void main(String[] args) {
        append();
        clearBuffer();
        firstError();
        play();
        playRefused();
        playToTheEnd();
        Check.end("TextTests");
    }

    private static void append() {
        HallGuards hall = new HallGuards();
        for (int code : new int[] {32, 127, 0, -1, 255, Integer.MIN_VALUE, Integer.MAX_VALUE}) {
            Check.refused("8 append(" + code + ")", ARGUMENT, hall, () -> hall.append(code));
        }
        Check.due("8 append(33)", 1, () -> hall.append(33));
        Check.due("8 append(126)", 2, () -> hall.append(126));
        for (int length = 3; length <= 60; length++) {
            Check.due("8 append('a')", length, () -> hall.append('a'));
        }
        Check.refused("8 the buffer is full", STATE, hall, () -> hall.append('a'));
        Check.refused("8 the code first", ARGUMENT, hall, () -> hall.append(32));
        Check.due("8 not undoable", 0, hall::savedStates);
        Check.due("9 clearBuffer()", 60, hall::clearBuffer);
        Check.due("8 from anew", 1, () -> hall.append('a'));
    }

    private static void clearBuffer() {
        HallGuards hall = new HallGuards();
        Check.due("9 empty", 0, hall::clearBuffer);
        Check.type(hall, "d1c");
        Check.due("9 three", 3, hall::clearBuffer);
        Check.due("9 empty again", 0, hall::clearBuffer);
        Check.due("9 not undoable", 0, hall::savedStates);
    }

    private static void error(String text, int want) {
        HallGuards hall = new HallGuards();
        Check.type(hall, text);
        Check.due("10 firstError() of " + text, want, hall::firstError);
        Check.due("10 the buffer stays", text.length(), hall::clearBuffer);
    }

    private static void firstError() {
        error("", 0);
        error("a", 1);
        error("g", 1);
        error("h", 0);
        error("`", 0);
        error("A", 0);
        error("1", 0);
        error(";", 0);
        error("a1", 2);
        error("a7", 2);
        error("a0", 1);
        error("a8", 1);
        error("aa", 1);
        error("a;", 1);
        error("a1a", 3);
        error("a1g", 3);
        error("a1h", 2);
        error("a11", 2);
        error("a1;", 2);
        error("a1a1", 4);
        error("a1a7", 4);
        error("a1a8", 3);
        error("a1a0", 3);
        error("a1ab", 3);
        error("a1a1;", 5);
        error("a1a1a", 4);
        error("a1a11", 4);
        error("a1a1:", 4);
        error("a1a1;;", 5);
        error("a1a1;g7", 7);
        error("a1a1;g7d4", 9);
        error("a1a1;g7d4;x", 10);
        error("x1a1;g7d4;x", 0);
        error("a1b2;".repeat(12), 60);
        error("a1b2;".repeat(11) + "a1b2z", 59);
    }

    private static void play() {
        HallGuards hall = new HallGuards();
        Check.type(hall, "d1c1");
        Check.due("11 one move", 0, hall::play);
        Check.due("11 it was made", "..T..../...T.../...G.../TTGKGTT/...G.../...T.../...T...", () -> Check.drawn(hall));
        Check.due("11 the buffer is cleared", 0, hall::clearBuffer);
        Check.due("11 savedStates()", 1, hall::savedStates);
        Check.type(hall, "d3f3;d2d3;c4c2");
        Check.due("11 three moves", 0, hall::play);
        Check.due("11 they were made", "..T..../..G..../...T.G./TT.KGTT/...G.../...T.../...T...", () -> Check.drawn(hall));
        Check.due("11 moves()", 4, hall::moves);
        Check.due("11 saved as one call", 2, hall::savedStates);
        hall.undo();
        Check.due("11 undone as one call", 1, hall::moves);
        Check.due("11 the buffer is not undone", 0, hall::clearBuffer);
        Check.due("11 pieces", "..T..../...T.../...G.../TTGKGTT/...G.../...T.../...T...", () -> Check.drawn(hall));
        HallGuards taking = Check.game(1, ".......", "..GT...", "....G..", ".......", "T..GT..", ".......", ".T..K..");
        Check.type(taking, "e3e2;a5c5;e7e6");
        Check.due("11 the taken of all moves", 2, taking::play);
        Check.due("11 takenOf(0)", 1, () -> taking.takenOf(0));
        Check.due("11 takenOf(1)", 1, () -> taking.takenOf(1));
        Check.due("11 allMoves()", 3, taking::allMoves);
    }

    private static void playRefused() {
        for (String text : new String[] {"", "d", "d1", "d1c", "d1c1;", "d1c1;d3", "d1c1d3", "x1c1", "d1c8", "d1c1,d3e3", "D1C1"}) {
            HallGuards hall = new HallGuards();
            Check.type(hall, text);
            Check.refused("11 play() of " + text, ARGUMENT, hall, hall::play);
            Check.due("11 the buffer stays", text.length(), hall::clearBuffer);
        }
        for (String text : new String[] {"d1d1", "a1b1", "d1a1", "d1e2", "d3e3", "d1c1;d2c2", "d1c1;d3e3;d1b1", "d1c1;d3d3"}) {
            HallGuards hall = new HallGuards();
            Check.type(hall, text);
            Check.refused("11 play() of " + text, STATE, hall, hall::play);
            Check.due("11 the buffer stays", text.length(), hall::clearBuffer);
            Check.due("11 nothing was moved", 0, hall::allMoves);
        }
        HallGuards idle = new HallGuards();
        idle.clearBoard();
        Check.type(idle, "d1c1");
        Check.refused("11 no game goes on", STATE, idle, idle::play);
        idle.append(';');
        Check.refused("11 the text first", ARGUMENT, idle, idle::play);
    }

    private static void playToTheEnd() {
        HallGuards hall = Check.game(1, "...K...", "......T", ".......", "T......");
        Check.type(hall, "d1a1");
        Check.due("11 a win", 0, hall::play);
        Check.due("11 standing()", 3, hall::standing);
        hall.undo();
        Check.type(hall, "d1a1;g2f2");
        Check.refused("11 a move behind the win", STATE, hall, hall::play);
        Check.due("11 wins(1)", 0, () -> hall.wins(1));
        HallGuards full = new HallGuards();
        Check.type(full, "d1c1;d3e3;c1d1;e3d3;d1c1;d3e3;c1d1;e3d3");
        Check.due("11 eight moves to a draw", 0, full::play);
        Check.due("11 drawn", 4, full::standing);
        Check.due("11 draws()", 1, full::draws);
        full.setUp();
        Check.type(full, "d1c1;d3e3;c1b1;e3f3;b1b2;f3g3;b2a2;g3g2;a2a3;g2f2;a3b3;f2e2");
        Check.due("11 twelve moves", 0, full::play);
        Check.due("11 moves()", 12, full::moves);
        HallGuards taken = Check.game(0, ".......", "T..KT..", "......G");
        Check.type(taken, "a2c2");
        Check.due("11 the king too", 1, taken::play);
        Check.due("11 standing()", 2, taken::standing);
    }
}
