import java.io.IOException;
import java.nio.file.Files;
import java.nio.file.Path;
import java.util.ArrayList;
import java.util.LinkedHashMap;
import java.util.List;
import java.util.Map;
import java.util.concurrent.Callable;

/**
 * Quotes the document: the checks behind says() test the sentence that it names. A sentence that the
 * document has not, one that is quoted without a check, and one that nobody quotes are told as failures.
 */
class Sentences {
    static final String OUT = "IndexOutOfBoundsException";
    static final String ARGUMENT = "IllegalArgumentException";
    static final String STATE = "IllegalStateException";
    static final int[] CORNERS = {0, 6, 42, 48};

    /** Headings under which nothing stands that a call could show. */
    private static final List<String> SILENT = List.of("", "HallGuards", "The public face", "Not promised");
    private static final Map<String, List<String>> UNTESTED = new LinkedHashMap<>();

    private static String heading = "";
    private static String sentence = "";
    private static int madeBefore = 0;

    /** A call with one number. */
    interface NumberCall {
        Object with(int number) throws Exception;
    }

    static void read(Path document) throws IOException {
        String title = "";
        for (String line : Files.readAllLines(document)) {
            if (line.startsWith("#") || line.equals("Snapshots, undo")) {
                title = line.replaceFirst("^#+ ", "");
            } else if (!SILENT.contains(title) && tellsSomething(line)) {
                UNTESTED.computeIfAbsent(title, none -> new ArrayList<>()).addAll(sentencesOf(line));
            }
        }
    }

    /** Some lines only tell under which comment of the interface calls stand. */
    private static boolean tellsSomething(String line) {
        return !line.isBlank() && (!line.startsWith("Ahead of") || line.endsWith("nothing is changed."));
    }

    private static List<String> sentencesOf(String line) {
        String text = line.replaceFirst("^`[^`]*`: ", "");
        boolean whole = text.startsWith("- ") || text.startsWith("Throws") || text.startsWith("Ahead of");
        return whole ? List.of(text) : List.of(text.split("(?<=\\.|\\.\\))\\s+"));
    }

    /** The promises are named without what stands behind the ":" of their headings. */
    static void at(String title) {
        heading = title;
        for (String whole : UNTESTED.keySet()) {
            if (whole.startsWith(title + ":")) {
                heading = whole;
            }
        }
    }

    /** The sentence itself, or so much of it that no other one under the heading begins so. */
    static void says(String begin) {
        needCheck();
        sentence = begin;
        List<String> open = UNTESTED.getOrDefault(heading, new ArrayList<>());
        List<String> fitting = new ArrayList<>();
        for (String candidate : open) {
            if (candidate.equals(begin) || candidate.startsWith(begin) && !open.contains(begin)) {
                fitting.add(candidate);
            }
        }
        Check.due(heading + " says once: " + begin, 1, fitting::size);
        open.removeAll(fitting);
        madeBefore = Check.made();
    }

    private static void needCheck() {
        boolean tested = sentence.isEmpty() || Check.made() > madeBefore;
        Check.due(heading + ", a check for: " + sentence, true, () -> tested);
    }

    /** Tells which sentences nobody quoted. */
    static void end() {
        needCheck();
        UNTESTED.values().removeIf(List::isEmpty);
        Check.due("sentences without a test", "{}", UNTESTED::toString);
    }

    static void due(String what, Object want, Callable<?> call) {
        Check.due(heading + ", " + sentence + " | " + what, want, call);
    }

    static void refused(String what, String exception, HallGuards hall, Callable<?> call) {
        Check.refused(heading + ", " + sentence + " | " + what, exception, hall, call);
    }

    /** Each number of the range is taken, those beside it and far off are refused. */
    static void range(int least, int most, String exception, HallGuards hall, NumberCall call) {
        for (int number = least; number <= most; number++) {
            int inside = number;
            due(number + " is taken", false, () -> Check.answerOf(() -> call.with(inside)).equals("throws." + exception));
        }
        for (int outside : new int[] {least - 1, most + 1, Integer.MIN_VALUE, Integer.MAX_VALUE}) {
            refused(outside + " is not", exception, hall, () -> call.with(outside));
        }
    }

    /** A call that is marked "undoable": one saved state more, by which it is undone. */
    static void undoable(HallGuards hall, Callable<?> call) {
        long before = hall.digest();
        int saved = hall.savedStates();
        due("it is made", false, () -> String.valueOf(Check.answerOf(call)).startsWith("throws"));
        due("saves a state", Math.min(6, saved + 1), hall::savedStates);
        hall.undo();
        due("is undone", saved < 6, () -> hall.digest() == before);
    }

    static HallGuards board(String rows) {
        return Check.board(rows.split("/"));
    }

    static HallGuards game(int side, String rows) {
        return Check.game(side, rows.split("/"));
    }

    static HallGuards cleared() {
        return board("");
    }

    /** The rows with all their squares, as Check.drawn() tells them. */
    static String full(String rows) {
        return Check.drawn(board(rows));
    }

    static int from(String move) {
        return Check.at(move.substring(0, 2));
    }

    static int to(String move) {
        return Check.at(move.substring(2, 4));
    }

    static int code(String move) {
        return 49 * from(move) + to(move);
    }

    static int go(HallGuards hall, String move) {
        return hall.move(from(move), to(move));
    }

    /** Moves that are told like those of a text. */
    static void goAll(HallGuards hall, String moves) {
        for (String move : moves.split(";")) {
            go(hall, move);
        }
    }
}
