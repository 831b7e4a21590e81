import java.util.ArrayDeque;
import java.util.ArrayList;
import java.util.Deque;
import java.util.HashMap;
import java.util.List;
import java.util.Map;
import java.util.regex.Pattern;

/**
 * The document once more, written as plainly as it can be said and without regard to room or speed,
 * so that ModelTests can hold both against one another.
 */
final class Model {
    private static final int[][] AROUND = {{-1, 0}, {0, -1}, {0, 1}, {1, 0}};

    /** All but the buffer, the slots and the saved states. */
    private static final class All {
        int[][] pieces = new int[7][7];
        boolean strong;
        int standing;
        int turn;
        int moves;
        List<String> seen = new ArrayList<>();
        int[] wins = new int[2];
        int draws;
        int[] taken = new int[2];
        int allMoves;

        All copy() {
            All other = new All();
            for (int row = 0; row < 7; row++) {
                other.pieces[row] = pieces[row].clone();
            }
            other.strong = strong;
            other.standing = standing;
            other.turn = turn;
            other.moves = moves;
            other.seen = new ArrayList<>(seen);
            other.wins = wins.clone();
            other.draws = draws;
            other.taken = taken.clone();
            other.allMoves = allMoves;
            return other;
        }
    }

    private All now = new All();
    private final Map<Integer, All> slots = new HashMap<>();
    private final Deque<All> saved = new ArrayDeque<>();
    private String buffer = "";

    Model() {
        arrange();
    }

    private void arrange() {
        now.pieces = new int[7][7];
        now.pieces[3][3] = 3;
        for (int[] step : AROUND) {
            now.pieces[3 + step[0]][3 + step[1]] = 2;
            now.pieces[3 + 2 * step[0]][3 + 2 * step[1]] = 1;
            now.pieces[3 + 3 * step[0]][3 + 3 * step[1]] = 1;
        }
        begin(0);
    }

    private void begin(int side) {
        now.standing = 1;
        now.turn = side;
        now.moves = 0;
        now.seen.clear();
        now.seen.add(position());
    }

    private String position() {
        return now.turn + java.util.Arrays.deepToString(now.pieces);
    }

    private void save(All state) {
        saved.addLast(state.copy());
        if (saved.size() > 6) {
            saved.removeFirst();
        }
    }

    // ---- the calls

    int setUp() {
        save(now);
        arrange();
        return 13;
    }

    int clearBoard() {
        int count = piecesOf(0) + piecesOf(1);
        save(now);
        now.pieces = new int[7][7];
        now.standing = 0;
        now.moves = 0;
        now.seen.clear();
        return count;
    }

    int put(int row, int column, int piece) {
        square(row, column);
        if (piece < 0 || piece > 3) {
            throw new IllegalArgumentException();
        }
        int before = now.pieces[row][column];
        int king = king();
        boolean kings = piece == 3 && king >= 0 && king != 7 * row + column;
        boolean wrong = (piece == 1 || piece == 2) && special(row, column);
        if (now.standing != 0 || kings || wrong) {
            throw new IllegalStateException();
        }
        save(now);
        now.pieces[row][column] = piece;
        return before;
    }

    int start(int side) {
        side(side);
        int king = king();
        if (now.standing != 0 || king < 0 || corner(king / 7, king % 7)) {
            throw new IllegalStateException();
        }
        save(now);
        begin(side);
        return movesByPieces(side);
    }

    boolean turnStrong() {
        save(now);
        now.strong = !now.strong;
        return now.strong;
    }

    int move(int from, int to) {
        squares(from, to);
        if (now.standing != 1 || owner(pieceOn(from)) != now.turn || !canMove(from, to)) {
            throw new IllegalStateException();
        }
        save(now);
        return make(from, to);
    }

    private int make(int from, int to) {
        int side = now.turn;
        List<Integer> gone = tryOut(from, to);
        now.taken[1 - side] += gone.size();
        now.moves++;
        now.allMoves++;
        now.turn = 1 - side;
        now.seen.add(position());
        int king = king();
        boolean cornered = king >= 0 && corner(king / 7, king % 7);
        if (king < 0) {
            now.standing = 2;
            now.wins[0]++;
        } else if (cornered) {
            now.standing = 3;
            now.wins[1]++;
        } else if (movesByPieces(1 - side) == 0) {
            now.standing = side == 0 ? 2 : 3;
            now.wins[side]++;
        } else if (timesSeen() == 3) {
            now.standing = 4;
            now.draws++;
        }
        return gone.size();
    }

    /** Moves on the board of now, and returns the squares whose pieces were taken. */
    private List<Integer> tryOut(int from, int to) {
        int piece = pieceOn(from);
        now.pieces[from / 7][from % 7] = 0;
        now.pieces[to / 7][to % 7] = piece;
        int other = 1 - owner(piece);
        List<Integer> gone = new ArrayList<>();
        for (int[] step : AROUND) {
            int row = to / 7 + step[0];
            int column = to % 7 + step[1];
            if (!onBoard(row, column) || owner(now.pieces[row][column]) != other) {
                continue;
            }
            boolean behind = hostile(row + step[0], column + step[1], other);
            if (now.pieces[row][column] == 3) {
                boolean near = Math.abs(row - 3) + Math.abs(column - 3) <= 1;
                if (now.strong || near ? pressure(row, column) == 4 : behind) {
                    gone.add(7 * row + column);
                }
            } else if (behind) {
                gone.add(7 * row + column);
            }
        }
        for (int square : gone) {
            now.pieces[square / 7][square % 7] = 0;
        }
        return gone;
    }

    int append(int code) {
        if (code < 33 || code > 126) {
            throw new IllegalArgumentException();
        }
        if (buffer.length() == 60) {
            throw new IllegalStateException();
        }
        buffer += (char) code;
        return buffer.length();
    }

    int clearBuffer() {
        int length = buffer.length();
        buffer = "";
        return length;
    }

    private static final Pattern MOVES = Pattern.compile("[a-g][1-7][a-g][1-7](;[a-g][1-7][a-g][1-7])*");

    /** A text is a begin of moves, if something can be written behind it so that it tells moves. */
    int firstError() {
        for (int length = 1; length <= buffer.length(); length++) {
            boolean begins = false;
            for (String rest : new String[] {"", "1", "a1", "1a1", "a1a1"}) {
                begins |= MOVES.matcher(buffer.substring(0, length) + rest).matches();
            }
            if (!begins) {
                return length - 1;
            }
        }
        return buffer.length();
    }

    int play() {
        if (!MOVES.matcher(buffer).matches()) {
            throw new IllegalArgumentException();
        }
        All before = now.copy();
        int taken = 0;
        for (String part : buffer.split(";")) {
            int from = 7 * (part.charAt(1) - '1') + part.charAt(0) - 'a';
            int to = 7 * (part.charAt(3) - '1') + part.charAt(2) - 'a';
            if (now.standing != 1 || owner(pieceOn(from)) != now.turn || !canMove(from, to)) {
                now = before;
                throw new IllegalStateException();
            }
            taken += make(from, to);
        }
        save(before);
        buffer = "";
        return taken;
    }

    void keep(int slot) {
        slot(slot);
        slots.put(slot, now.copy());
    }

    void goBack(int slot) {
        slot(slot);
        if (!slots.containsKey(slot)) {
            throw new IllegalStateException();
        }
        save(now);
        now = slots.get(slot).copy();
    }

    void undo() {
        if (saved.isEmpty()) {
            throw new IllegalStateException();
        }
        now = saved.removeLast();
    }

    int savedStates() {
        return saved.size();
    }

    int pieceAt(int row, int column) {
        square(row, column);
        return now.pieces[row][column];
    }

    int piecesOf(int side) {
        side(side);
        int count = 0;
        for (int square = 0; square < 49; square++) {
            count += owner(pieceOn(square)) == side ? 1 : 0;
        }
        return count;
    }

    int kingAt() {
        needKing();
        return king();
    }

    boolean isHostile(int row, int column, int side) {
        square(row, column);
        side(side);
        return hostile(row, column, side);
    }

    boolean isStrong() {
        return now.strong;
    }

    int standing() {
        return now.standing;
    }

    int turn() {
        if (now.standing != 1) {
            throw new IllegalStateException();
        }
        return now.turn;
    }

    int moves() {
        return now.moves;
    }

    int timesSeen() {
        if (now.standing == 0) {
            throw new IllegalStateException();
        }
        String position = position();
        int count = 0;
        for (String seen : now.seen) {
            count += seen.equals(position) ? 1 : 0;
        }
        return count;
    }

    boolean canMove(int from, int to) {
        return reasonAgainst(from, to) == 0;
    }

    int reasonAgainst(int from, int to) {
        squares(from, to);
        int piece = pieceOn(from);
        if (piece == 0) {
            return 1;
        }
        int down = Integer.signum(to / 7 - from / 7);
        int right = Integer.signum(to % 7 - from % 7);
        if ((down == 0) == (right == 0)) {
            return 2;
        }
        int row = from / 7;
        int column = from % 7;
        do {
            row += down;
            column += right;
            if (now.pieces[row][column] != 0) {
                return 3;
            }
        } while (7 * row + column != to);
        return piece != 3 && special(row, column) ? 4 : 0;
    }

    int movesFrom(int row, int column) {
        square(row, column);
        int count = 0;
        for (int to = 0; to < 49; to++) {
            count += canMove(7 * row + column, to) ? 1 : 0;
        }
        return count;
    }

    private List<Integer> list(int side) {
        List<Integer> found = new ArrayList<>();
        for (int code = 0; code < 2401; code++) {
            if (owner(pieceOn(code / 49)) == side && canMove(code / 49, code % 49)) {
                found.add(code);
            }
        }
        return found;
    }

    int movesByPieces(int side) {
        side(side);
        return list(side).size();
    }

    int movesBySquares(int side) {
        side(side);
        return list(side).size();
    }

    int wouldTake(int from, int to) {
        possible(from, to);
        All before = now.copy();
        int count = tryOut(from, to).size();
        now = before;
        return count;
    }

    boolean wouldWin(int from, int to) {
        possible(from, to);
        All before = now.copy();
        int king = king();
        int piece = pieceOn(from);
        tryOut(from, to);
        boolean won = king >= 0 && king() < 0
                || piece == 3 && corner(to / 7, to % 7)
                || list(1 - owner(piece)).isEmpty();
        now = before;
        return won;
    }

    int winningMoves(int side) {
        side(side);
        int count = 0;
        for (int code : list(side)) {
            count += wouldWin(code / 49, code % 49) ? 1 : 0;
        }
        return count;
    }

    int moveAt(int side, int place) {
        side(side);
        List<Integer> found = list(side);
        if (place < 0 || place >= found.size()) {
            throw new IndexOutOfBoundsException();
        }
        return found.get(place);
    }

    /** The least moves to each square; -1 where he cannot come. */
    private int[] kingMoves() {
        int[] least = new int[49];
        java.util.Arrays.fill(least, -1);
        int king = king();
        if (king < 0) {
            return least;
        }
        All before = now;
        now = now.copy();
        now.pieces[king / 7][king % 7] = 0;
        least[king] = 0;
        for (int round = 0; round < 49; round++) {
            for (int from = 0; from < 49; from++) {
                if (least[from] != round) {
                    continue;
                }
                now.pieces[from / 7][from % 7] = 3;
                for (int to = 0; to < 49; to++) {
                    if (least[to] < 0 && canMove(from, to)) {
                        least[to] = round + 1;
                    }
                }
                now.pieces[from / 7][from % 7] = 0;
            }
        }
        now = before;
        return least;
    }

    int kingMovesByRounds() {
        int[] least = kingMoves();
        int best = 99;
        for (int corner : new int[] {0, 6, 42, 48}) {
            best = least[corner] < 0 ? best : Math.min(best, least[corner]);
        }
        if (best == 99) {
            throw new IllegalStateException();
        }
        return best;
    }

    int kingMovesByCorners() {
        return kingMovesByRounds();
    }

    int openCorners() {
        int[] least = kingMoves();
        int count = 0;
        for (int corner : new int[] {0, 6, 42, 48}) {
            count += least[corner] == 1 ? 1 : 0;
        }
        return count;
    }

    int kingReach() {
        int count = 0;
        for (int least : kingMoves()) {
            count += least > 0 ? 1 : 0;
        }
        return count;
    }

    int kingPressure() {
        needKing();
        return pressure(king() / 7, king() % 7);
    }

    int worthOf(int from, int to) {
        possible(from, to);
        if (wouldWin(from, to)) {
            return 1000;
        }
        int other = 1 - owner(pieceOn(from));
        All before = now.copy();
        int taken = tryOut(from, to).size();
        int answers = winningMoves(other);
        now = before;
        return 20 * taken - 100 * answers;
    }

    int bestMove(int side) {
        side(side);
        int best = -1;
        int most = 0;
        for (int code : list(side)) {
            int worth = worthOf(code / 49, code % 49);
            if (best < 0 || worth > most) {
                best = code;
                most = worth;
            }
        }
        if (best < 0) {
            throw new IllegalStateException();
        }
        return best;
    }

    int wins(int side) {
        side(side);
        return now.wins[side];
    }

    int draws() {
        return now.draws;
    }

    int takenOf(int side) {
        side(side);
        return now.taken[side];
    }

    int allMoves() {
        return now.allMoves;
    }

    double meanMoves() {
        return (movesByPieces(0) + movesByPieces(1)) / 2.0;
    }

    long digest() {
        List<Long> values = new ArrayList<>();
        for (int square = 0; square < 49; square++) {
            add(values, pieceOn(square), hostile(square / 7, square % 7, 0) ? 1 : 0,
                    hostile(square / 7, square % 7, 1) ? 1 : 0, movesFrom(square / 7, square % 7));
        }
        add(values, piecesOf(0), piecesOf(1), king() + 1, now.strong ? 1 : 0, now.standing,
                now.standing == 1 ? now.turn + 1 : 0, now.moves, now.standing == 0 ? 0 : timesSeen());
        for (int side = 0; side < 2; side++) {
            List<Integer> found = list(side);
            add(values, found.size(), found.size(), winningMoves(side), found.isEmpty() ? 0 : found.get(0) + 1,
                    found.isEmpty() ? 0 : found.get(found.size() - 1) + 1);
        }
        int rounds;
        try {
            rounds = kingMovesByRounds();
        } catch (IllegalStateException none) {
            rounds = 0;
        }
        add(values, rounds, rounds, openCorners(), kingReach(), king() < 0 ? 0 : kingPressure() + 1);
        add(values, now.wins[0], now.wins[1], now.draws, now.taken[0], now.taken[1], now.allMoves, saved.size());
        values.add(Double.doubleToLongBits(meanMoves()));
        add(values, slots.containsKey(0) ? 1 : 0, slots.containsKey(1) ? 1 : 0, buffer.length());
        for (char sign : buffer.toCharArray()) {
            values.add((long) sign);
        }
        long hash = 4451;
        for (long value : values) {
            hash = 31 * hash + value;
        }
        return hash;
    }

    // ---- what all need

    private static void add(List<Long> values, int... more) {
        for (int value : more) {
            values.add((long) value);
        }
    }

    private int pieceOn(int square) {
        return now.pieces[square / 7][square % 7];
    }

    private static int owner(int piece) {
        return piece == 0 ? -1 : piece == 1 ? 0 : 1;
    }

    private int king() {
        for (int square = 0; square < 49; square++) {
            if (pieceOn(square) == 3) {
                return square;
            }
        }
        return -1;
    }

    private int pressure(int row, int column) {
        int count = 0;
        for (int[] step : AROUND) {
            count += hostile(row + step[0], column + step[1], 1) ? 1 : 0;
        }
        return count;
    }

    private boolean hostile(int row, int column, int side) {
        if (!onBoard(row, column)) {
            return false;
        }
        int piece = now.pieces[row][column];
        return corner(row, column) || row == 3 && column == 3 && piece == 0 || owner(piece) == 1 - side;
    }

    private static boolean onBoard(int row, int column) {
        return row >= 0 && row < 7 && column >= 0 && column < 7;
    }

    private static boolean corner(int row, int column) {
        return (row == 0 || row == 6) && (column == 0 || column == 6);
    }

    private static boolean special(int row, int column) {
        return corner(row, column) || row == 3 && column == 3;
    }

    private static void square(int row, int column) {
        if (!onBoard(row, column)) {
            throw new IndexOutOfBoundsException();
        }
    }

    private static void squares(int from, int to) {
        if (from < 0 || from > 48 || to < 0 || to > 48) {
            throw new IndexOutOfBoundsException();
        }
    }

    private static void side(int side) {
        if (side != 0 && side != 1) {
            throw new IndexOutOfBoundsException();
        }
    }

    private static void slot(int slot) {
        if (slot != 0 && slot != 1) {
            throw new IllegalArgumentException();
        }
    }

    private void needKing() {
        if (king() < 0) {
            throw new IllegalStateException();
        }
    }

    private void possible(int from, int to) {
        if (!canMove(from, to)) {
            throw new IllegalStateException();
        }
    }
}
