import java.util.concurrent.Callable;

/** What all tests share: counted checks, and boards drawn as texts. */
final class Check {
    private static int passed = 0;
    private static int failed = 0;

    private Check() {
    }

    /** Compares an answer, or throws.NAME of the exception that a call threw. */
    static void due(String what, Object want, Callable<?> call) {
        Object got = answerOf(call);
        if (want.equals(got)) {
            passed++;
        } else {
            failed++;
            System.out.println(what + " answered " + got + ", due is " + want);
        }
    }

    static Object answerOf(Callable<?> call) {
        try {
            return call.call();
        } catch (Exception thrown) {
            return "throws." + thrown.getClass().getSimpleName();
        }
    }

    /** The call throws as it should, and neither the digest nor the answers behind it change. */
    static void refused(String what, String exception, HallGuards hall, Callable<?> call) {
        long before = hall.digest();
        due(what, "throws." + exception, call);
        due(what + ", then digest()", before, hall::digest);
    }

    /** A call without an answer answers "done". */
    static Callable<?> done(Runnable call) {
        return () -> {
            call.run();
            return "done";
        };
    }

    /** How many checks were made so far. */
    static int made() {
        return passed + failed;
    }

    static void end(String name) {
        System.out.println(name + ": " + passed + " checks passed, " + failed + " failed");
        if (failed != 0) {
            System.exit(1);
        }
    }

    /** A board without a game: '.' nothing, 'T' a table, 'G' a guard, 'K' the king. */
    static HallGuards board(String... rows) {
        HallGuards hall = new HallGuards();
        hall.clearBoard();
        for (int row = 0; row < rows.length; row++) {
            for (int column = 0; column < rows[row].length(); column++) {
                int piece = ".TGK".indexOf(rows[row].charAt(column));
                if (piece > 0) {
                    hall.put(row, column, piece);
                }
            }
        }
        return hall;
    }

    static HallGuards game(int side, String... rows) {
        HallGuards hall = board(rows);
        hall.start(side);
        return hall;
    }

    static String drawn(HallGuards hall) {
        StringBuilder text = new StringBuilder();
        for (int square = 0; square < 49; square++) {
            if (square > 0 && square % 7 == 0) {
                text.append('/');
            }
            text.append(".TGK".charAt(hall.pieceAt(square / 7, square % 7)));
        }
        return text.toString();
    }

    /** The number of a square told as in texts: a letter for the column, a digit for the row. */
    static int at(String name) {
        return 7 * (name.charAt(1) - '1') + name.charAt(0) - 'a';
    }

    static int go(HallGuards hall, String from, String to) {
        return hall.move(at(from), at(to));
    }

    static void type(HallGuards hall, String text) {
        for (int index = 0; index < text.length(); index++) {
            hall.append(text.charAt(index));
        }
    }
}
