/** The sentences of "Terms" about games, texts, snapshots and undo. */
final class GameSentences extends Sentences {
    private GameSentences() {
    }

    static void all() {
        wins();
        noMove();
        thirdTime();
        likePositions();
        beginsWithoutMove();
        buffer();
        parts();
        lettersAndDigits();
        syntaxErrors();
        sameSquare();
        slots();
        saving();
        savedState();
        sixStates();
    }

    private static void stands(String what, HallGuards hall, int standing, int wins0, int wins1, int draws) {
        due(what + ", standing()", standing, hall::standing);
        due(what + ", wins(0)", wins0, () -> hall.wins(0));
        due(what + ", wins(1)", wins1, () -> hall.wins(1));
        due(what + ", draws()", draws, hall::draws);
    }

    private static void wins() {
        at("Games");
        says("The side 0 wins, when the king is taken");
        HallGuards taken = game(0, "/T..KT/////.G");
        go(taken, "a2c2");
        stands("the king is taken", taken, 2, 1, 0, 0);
        HallGuards guard = game(0, "/T..GT/////.K");
        go(guard, "a2c2");
        stands("a guard is taken", guard, 1, 0, 0, 0);
        for (int corner : CORNERS) {
            HallGuards hall = cleared();
            hall.put(corner / 7, 3, 3);
            hall.put(2, 1, 1);
            hall.start(1);
            hall.move(7 * (corner / 7) + 3, corner);
            stands("in the corner " + corner, hall, 3, 0, 1, 0);
        }
        HallGuards beside = game(1, "...K//.T");
        go(beside, "d1b1");
        stands("beside a corner", beside, 1, 0, 0, 0);
        HallGuards throne = game(1, "...K//.T");
        go(throne, "d1d4");
        stands("on the throne", throne, 1, 0, 0, 0);
    }

    private static void noMove() {
        says("If neither is so, and the side whose turn it is then has no move");
        HallGuards king = game(0, ".T.KT/...T");
        king.turnStrong();
        due("none is taken", 0, () -> go(king, "b1c1"));
        stands("the king has no move", king, 2, 1, 0, 0);
        HallGuards guard = game(0, ".T.KT/...T////.G");
        guard.turnStrong();
        go(guard, "b1c1");
        stands("a guard has a move", guard, 1, 0, 0, 0);
        HallGuards one = game(0, ".T.KT//...T");
        one.turnStrong();
        go(one, "b1c1");
        due("the king's moves", 1, () -> one.movesFrom(0, 3));
        stands("the king has one move", one, 1, 0, 0, 0);
        HallGuards last = game(1, "/..GT/....G//.K");
        due("the last table is taken", 1, () -> go(last, "e3e2"));
        stands("no table is left", last, 3, 0, 1, 0);
        HallGuards shut = game(1, ".TG/....G/////...K");
        due("no table is taken", 0, () -> go(shut, "e2b2"));
        stands("the table has no move", shut, 3, 0, 1, 0);
        HallGuards other = game(1, ".TG/....G/////...K.T");
        go(other, "e2b2");
        stands("another table has a move", other, 1, 0, 0, 0);
        HallGuards own = game(0, "...K.T/..T");
        go(own, "c2c1");
        stands("both have moves", own, 1, 0, 0, 0);
    }

    /** The table comes back behind 2 moves, the king behind 3: their position behind 12. */
    private static void thirdTime() {
        says("If neither is so, and the position of then");
        String[] table = {"a2b2", "b2a2"};
        String[] king = {"e2f2", "f2g2", "g2e2"};
        HallGuards hall = game(0, "/T...K");
        for (int ply = 1; ply <= 23; ply++) {
            int number = (ply - 1) / 2;
            go(hall, ply % 2 == 1 ? table[number % 2] : king[number % 3]);
            due("seen behind " + ply, ply < 12 ? 1 : 2, hall::timesSeen);
            stands("behind " + ply, hall, 1, 0, 0, 0);
        }
        go(hall, "g2e2");
        due("seen for the third time", 3, hall::timesSeen);
        stands("the third time", hall, 4, 0, 0, 1);
        hall.clearBoard();
        hall.put(1, 0, 1);
        hall.put(1, 4, 3);
        hall.start(0);
        due("in this game", 1, hall::timesSeen);
        goAll(hall, "a2b2;e2f2;b2a2;f2e2");
        due("in this game once more", 2, hall::timesSeen);
        stands("the next game", hall, 1, 0, 0, 1);
        goAll(hall, "a2b2;e2f2;b2a2;f2e2");
        stands("the next draw", hall, 4, 0, 0, 2);
    }

    /** Like are only positions with the same pieces and the same side to move. */
    private static void likePositions() {
        HallGuards side = game(0, "/T...K");
        goAll(side, "a2b2;e2f2;b2c2;f2e2;c2a2");
        due("the other side's turn", 1, side::timesSeen);
        goAll(side, "e2f2;a2b2;f2e2;b2a2;e2f2;a2b2;f2e2;b2a2");
        due("the other side's turn, drawn", 3, side::timesSeen);
        stands("the other side's turn, drawn", side, 4, 0, 0, 1);
        HallGuards kind = game(0, "/T...K/.....G");
        goAll(kind, "a2b2;e2e3;b2a2;f3f2;a2b2;f2e2;b2a2;e3f3");
        due("the king and a guard in each other's place", 1, kind::timesSeen);
        HallGuards place = game(0, "/.TG///..G//....K");
        goAll(place, "b2b3;e7f7;b3b5;f7e7");
        due("a table beside another guard", 1, place::timesSeen);
        HallGuards row = game(0, ".T//////....K");
        goAll(row, "b1d1;e7f7;d1c1;f7e7");
        due("a table on another square of the first row", 1, row::timesSeen);
        HallGuards strong = game(0, "/T...K");
        goAll(strong, "a2b2;e2f2;b2a2");
        strong.turnStrong();
        go(strong, "f2e2");
        due("however strong", 2, strong::timesSeen);
    }

    private static void beginsWithoutMove() {
        says("A game that begins with a side that has no move goes on");
        HallGuards king = board("..TKT/...T");
        due("start(1)", 0, () -> king.start(1));
        noMoveAtAll(king);
        HallGuards tables = board("...K");
        due("start(0)", 0, () -> tables.start(0));
        noMoveAtAll(tables);
    }

    private static void noMoveAtAll(HallGuards hall) {
        stands("it goes on", hall, 1, 0, 0, 0);
        int possible = 0;
        for (int code = 0; code < 2401; code++) {
            int number = code;
            Object answer = Check.answerOf(() -> hall.move(number / 49, number % 49));
            possible += answer.equals("throws." + STATE) ? 0 : 1;
        }
        int moves = possible;
        due("moves that are possible", 0, () -> moves);
        stands("it goes on yet", hall, 1, 0, 0, 0);
    }

    private static void buffer() {
        at("Input text");
        says("The buffer has at most 60 characters.");
        HallGuards hall = new HallGuards();
        for (int length = 1; length <= 60; length++) {
            due("character " + length, length, () -> hall.append('!'));
        }
        refused("one more", STATE, hall, () -> hall.append('!'));
        due("the length", 60, hall::clearBuffer);
    }

    private static void plays(String text, String exception) {
        HallGuards hall = game(0, "/T...K");
        Check.type(hall, text);
        if (exception.isEmpty()) {
            due("tells moves: " + text, 0, hall::play);
            due("how many", (text.length() + 1) / 5, hall::moves);
        } else {
            refused("text: " + text, exception, hall, hall::play);
        }
    }

    private static void parts() {
        says("Moves as a text are one or more parts with \";\" between them");
        plays("", ARGUMENT);
        plays(";", ARGUMENT);
        plays("a2b2", "");
        plays("a2b2;", ARGUMENT);
        plays(";a2b2", ARGUMENT);
        plays("a2b2;;e2f2", ARGUMENT);
        plays("a2b2e2f2", ARGUMENT);
        plays("a2b2,e2f2", ARGUMENT);
        plays("a2b2;e2f", ARGUMENT);
        plays("a2b2;e2f2", "");
        plays("a2b2;e2f2;b2c2;f2g2;c2d2;g2f2;d2d3;f2e2;d3d2;e2f2;d2c2;f2g2", "");
    }

    /** The king goes from each square, and comes to each square, that a letter and a digit tell. */
    private static void lettersAndDigits() {
        for (int from = 0; from < 49; from++) {
            int row = from / 7;
            int to = 7 * row + (from % 7 + 1) % 7;
            HallGuards hall = cleared();
            hall.put((row + 2) % 7, 2, 1);
            hall.put(row, from % 7, 3);
            if (Check.answerOf(() -> hall.start(1)).equals("throws." + STATE)) {
                continue;
            }
            Check.type(hall, "" + "abcdefg".charAt(from % 7) + (1 + row) + "abcdefg".charAt(to % 7) + (1 + row));
            due("from " + from, 0, hall::play);
            due("to", to, hall::kingAt);
        }
        HallGuards down = game(1, "/K.T");
        Check.type(down, "a2a6");
        down.play();
        due("the digit is the row", 35, down::kingAt);
        plays("h2b2", ARGUMENT);
        plays("a0b2", ARGUMENT);
        plays("a8b2", ARGUMENT);
        plays("a2h2", ARGUMENT);
        plays("a2b0", ARGUMENT);
        plays("a2b8", ARGUMENT);
        plays("A2b2", ARGUMENT);
        plays("2ab2", ARGUMENT);
    }

    private static void error(String text, int want) {
        HallGuards hall = new HallGuards();
        Check.type(hall, text);
        due("firstError() of " + text, want, hall::firstError);
        due("it changes nothing", text.length(), hall::clearBuffer);
    }

    private static void syntaxErrors() {
        says("The buffer is read from left to right");
        error("", 0);
        String[] places = {"", "a", "a1", "a1b", "a1b1", "a1b1;", "a1b1;c", "a1b1;c2", "a1b1;c2d", "a1b1;c2d2"};
        String[] fitting = {"ag", "17", "ag", "17", ";;", "ag", "17", "ag", "17", ";;"};
        for (int place = 0; place < places.length; place++) {
            for (char sign = '!'; sign <= '~'; sign++) {
                boolean fits = sign >= fitting[place].charAt(0) && sign <= fitting[place].charAt(1);
                error(places[place] + sign, fits ? place + 1 : place);
            }
        }
        error("a1b1x", 4);
        error("a1b1xc2", 4);
        error("xa1b1", 0);
        error("xyz", 0);
        error("a1b1;".repeat(12), 60);
        error("a1b1;".repeat(11) + "a1b1!", 59);
    }

    private static void sameSquare() {
        says("(A move to the same square is no syntax error.)");
        error("a2a2", 4);
        error("a2a2;b3b3", 9);
        plays("a2a2", STATE);
    }

    private static void slots() {
        at("Snapshots, undo");
        says("There are two slots; a snapshot is all but the buffer");
        HallGuards hall = new HallGuards();
        refused("no slot -1", ARGUMENT, hall, Check.done(() -> hall.keep(-1)));
        refused("no slot 2", ARGUMENT, hall, Check.done(() -> hall.keep(2)));
        hall.keep(0);
        go(hall, "d1c1");
        hall.turnStrong();
        hall.keep(1);
        hall.append('a');
        hall.goBack(0);
        due("moves() of the slot 0", 0, hall::moves);
        due("isStrong() of the slot 0", false, hall::isStrong);
        due("savedStates() goes on", 3, hall::savedStates);
        hall.goBack(1);
        due("moves() of the slot 1", 1, hall::moves);
        due("isStrong() of the slot 1", true, hall::isStrong);
        due("savedStates() goes on again", 4, hall::savedStates);
        due("the buffer stays", 1, hall::clearBuffer);
        hall.goBack(0);
        due("the slots stay", 0, hall::moves);
    }

    private static void saving() {
        says("Each method that is marked \"undoable\"");
        HallGuards hall = new HallGuards();
        undoable(hall, hall::setUp);
        due("setUp() of what is set up", 0, hall::moves);
        undoable(hall, hall::clearBoard);
        undoable(hall, hall::turnStrong);
        undoable(hall, () -> go(hall, "d1c1"));
        hall.keep(0);
        undoable(hall, Check.done(() -> hall.goBack(0)));
        hall.clearBoard();
        undoable(hall, hall::clearBoard);
        undoable(hall, () -> hall.put(1, 1, 0));
        undoable(hall, () -> hall.put(1, 1, 3));
        hall.put(1, 1, 3);
        undoable(hall, () -> hall.put(1, 1, 3));
        undoable(hall, () -> hall.start(0));
        HallGuards typed = new HallGuards();
        Check.type(typed, "d1c1");
        typed.play();
        due("play() saves a state", 1, typed::savedStates);
        HallGuards thrown = new HallGuards();
        for (int count = 0; count < 3; count++) {
            Check.answerOf(() -> thrown.put(1, 1, 1));
            Check.answerOf(() -> thrown.start(0));
            Check.answerOf(() -> thrown.move(0, 1));
            Check.answerOf(thrown::play);
            Check.answerOf(Check.done(() -> thrown.goBack(0)));
            Check.answerOf(Check.done(thrown::undo));
        }
        due("a call that throws saves none", 0, thrown::savedStates);
    }

    /** What undo() brings back: all but the buffer and the slots. */
    private static void savedState() {
        HallGuards hall = new HallGuards();
        hall.keep(0);
        goAll(hall, "d1c1;d3e3");
        hall.clearBoard();
        hall.append('a');
        hall.keep(1);
        hall.undo();
        due("the game goes on again", 1, hall::standing);
        due("its moves", 2, hall::moves);
        due("the pieces", 13, () -> hall.piecesOf(0) + hall.piecesOf(1));
        due("the buffer is not brought back", 1, hall::clearBuffer);
        due("nor are the slots", "done", Check.done(() -> hall.goBack(1)));
        due("nor what they hold", 0, hall::standing);
    }

    private static void sixStates() {
        says("At most 6 states are saved");
        HallGuards many = new HallGuards();
        for (int calls = 1; calls <= 20; calls++) {
            many.turnStrong();
            due("behind " + calls + " calls", Math.min(6, calls), many::savedStates);
        }
        HallGuards hall = cleared();
        for (int column = 0; column < 7; column++) {
            hall.put(1, column, 1);
        }
        for (int left = 6; left >= 1; left--) {
            hall.undo();
            int pieces = left;
            due("the latest first", pieces, () -> hall.piecesOf(0));
            due("states that are left", pieces - 1, hall::savedStates);
        }
        refused("the oldest was dropped", STATE, hall, Check.done(hall::undo));
        due("its pieces stay", 1, () -> hall.piecesOf(0));
    }
}
