import java.util.Arrays;

/** A king with his guards in a hall of hostile tables; ../shared/DOC.md says what each call does. */
public final class HallGuards {
    private static final int LINE = 7;
    private static final int SQUARES = 49;
    private static final int THRONE = 24;

    private static final int NOTHING = 0;
    private static final int TABLE = 1;
    private static final int GUARD = 2;
    private static final int KING = 3;

    private static final int UP = 0;
    private static final int LEFT = 1;
    private static final int RIGHT = 2;
    private static final int DOWN = 3;
    private static final int DIRECTIONS = 4;

    private static final int NOT_BEGUN = 0;
    private static final int GOES_ON = 1;
    private static final int WON_BY_FIRST = 2;
    private static final int DRAWN = 4;

    private static final int SLOTS = 2;
    private static final int HASH_START = 4451;

    // a bit for each square, so that a look at one needs neither an index nor a further call
    private static final long CORNER_BITS = 1L | 1L << 6 | 1L << 42 | 1L << 48;
    private static final long KING_ONLY_BITS = CORNER_BITS | 1L << THRONE;

    private static final int[] CORNERS = {0, 6, 42, 48};
    private static final int[] PIECES_SET_UP = {
        0, 0, 0, 1, 0, 0, 0,
        0, 0, 0, 1, 0, 0, 0,
        0, 0, 0, 2, 0, 0, 0,
        1, 1, 2, 3, 2, 1, 1,
        0, 0, 0, 2, 0, 0, 0,
        0, 0, 0, 1, 0, 0, 0,
        0, 0, 0, 1, 0, 0, 0};

    private final State state;
    private final State trial;
    private final State[] slots;
    private final boolean[] slotTaken;
    private final Saves saves;
    private final MoveText buffer;
    private final MoveList list;
    private final Advice advice;
    private final KingWay way;

    public HallGuards() {
        state = new State();
        trial = new State();
        slots = new State[SLOTS];
        for (int slot = 0; slot < SLOTS; slot++) {
            slots[slot] = new State();
        }
        slotTaken = new boolean[SLOTS];
        saves = new Saves();
        buffer = new MoveText();
        list = new MoveList();
        advice = new Advice();
        way = new KingWay();
        state.beginSetUp();
    }

    // ---- setting up

    public int setUp() {
        saves.push(state);
        state.beginSetUp();
        return state.board.countAll();
    }

    public int clearBoard() {
        saves.push(state);
        int pieces = state.board.countAll();
        state.endAndClear();
        return pieces;
    }

    public int put(int row, int column, int piece)
            throws IndexOutOfBoundsException, IllegalArgumentException, IllegalStateException {
        needSquare(row, column);
        if (piece < NOTHING || piece > KING) {
            throw new IllegalArgumentException("piece is not 0 to 3");
        }
        int square = LINE * row + column;
        if (state.standing != NOT_BEGUN || !state.board.allowsPiece(square, piece)) {
            throw new IllegalStateException("the piece cannot be put there now");
        }
        saves.push(state);
        int before = state.board.at(square);
        state.board.set(square, piece);
        return before;
    }

    public int start(int side) throws IndexOutOfBoundsException, IllegalStateException {
        needSide(side);
        int king = state.board.king;
        if (state.standing != NOT_BEGUN || king < 0 || isCorner(king)) {
            throw new IllegalStateException("no game can begin now");
        }
        saves.push(state);
        state.begin(side);
        return state.board.countMoves(side);
    }

    public boolean turnStrong() {
        saves.push(state);
        state.board.strong = !state.board.strong;
        return state.board.strong;
    }

    // ---- moves

    public int move(int from, int to) throws IndexOutOfBoundsException, IllegalStateException {
        needSquares(from, to);
        if (!state.allowsMove(from, to)) {
            throw new IllegalStateException("the move is not possible now");
        }
        saves.push(state);
        return state.makeMove(from, to);
    }

    // ---- texts

    public int append(int code) throws IllegalArgumentException, IllegalStateException {
        if (code < 33 || code > 126) {
            throw new IllegalArgumentException("code is not 33 to 126");
        }
        if (buffer.isFull()) {
            throw new IllegalStateException("the buffer is full");
        }
        buffer.add(code);
        return buffer.length;
    }

    public int clearBuffer() {
        int length = buffer.length;
        buffer.empty();
        return length;
    }

    public int firstError() {
        return buffer.errorIndex();
    }

    public int play() throws IllegalArgumentException, IllegalStateException {
        if (!buffer.tellsMoves()) {
            throw new IllegalArgumentException("the buffer does not tell moves");
        }
        trial.copyFrom(state);
        int taken = playOnTrial();
        if (taken < 0) {
            throw new IllegalStateException("a move of the buffer is not possible");
        }
        saves.push(state);
        state.copyFrom(trial);
        buffer.empty();
        return taken;
    }

    /** How many pieces the moves of the buffer take; -1 if one of them is not possible. */
    private int playOnTrial() {
        int taken = 0;
        for (int part = 0; part < buffer.parts(); part++) {
            int from = buffer.squareAt(MoveText.PART * part);
            int to = buffer.squareAt(MoveText.PART * part + 2);
            if (!trial.allowsMove(from, to)) {
                return -1;
            }
            taken += trial.makeMove(from, to);
        }
        return taken;
    }

    // ---- snapshots, undo

    public void keep(int slot) throws IllegalArgumentException {
        needSlot(slot);
        slots[slot].copyFrom(state);
        slotTaken[slot] = true;
    }

    public void goBack(int slot) throws IllegalArgumentException, IllegalStateException {
        needSlot(slot);
        if (!slotTaken[slot]) {
            throw new IllegalStateException("there is no snapshot in the slot");
        }
        saves.push(state);
        state.copyFrom(slots[slot]);
    }

    public void undo() throws IllegalStateException {
        if (saves.count == 0) {
            throw new IllegalStateException("no state is saved");
        }
        saves.popInto(state);
    }

    public int savedStates() {
        return saves.count;
    }

    // ---- the board as it is; nothing is changed

    public int pieceAt(int row, int column) throws IndexOutOfBoundsException {
        needSquare(row, column);
        return state.board.at(LINE * row + column);
    }

    public int piecesOf(int side) throws IndexOutOfBoundsException {
        needSide(side);
        return state.board.countPieces(side);
    }

    public int kingAt() throws IllegalStateException {
        needKing();
        return state.board.king;
    }

    public boolean isHostile(int row, int column, int side) throws IndexOutOfBoundsException {
        needSquare(row, column);
        needSide(side);
        return state.board.hostileTo(side, LINE * row + column);
    }

    public boolean isStrong() {
        return state.board.strong;
    }

    public int standing() {
        return state.standing;
    }

    public int turn() throws IllegalStateException {
        if (state.standing != GOES_ON) {
            throw new IllegalStateException("no game goes on");
        }
        return state.mover;
    }

    public int moves() {
        return state.gameMoves;
    }

    public int timesSeen() throws IllegalStateException {
        if (state.standing == NOT_BEGUN) {
            throw new IllegalStateException("no game was begun");
        }
        return state.timesThere();
    }

    // ---- moves that are possible; nothing is changed

    public boolean canMove(int from, int to) throws IndexOutOfBoundsException {
        needSquares(from, to);
        return state.board.obstacle(from, to) == 0;
    }

    public int reasonAgainst(int from, int to) throws IndexOutOfBoundsException {
        needSquares(from, to);
        return state.board.obstacle(from, to);
    }

    public int movesFrom(int row, int column) throws IndexOutOfBoundsException {
        needSquare(row, column);
        return state.board.countFrom(LINE * row + column);
    }

    public int movesByPieces(int side) throws IndexOutOfBoundsException {
        needSide(side);
        return state.board.countMoves(side);
    }

    public int movesBySquares(int side) throws IndexOutOfBoundsException {
        needSide(side);
        return state.board.countArrivals(side);
    }

    public int wouldTake(int from, int to) throws IndexOutOfBoundsException, IllegalStateException {
        needPossible(from, to);
        return advice.takes(state.board, from, to);
    }

    public boolean wouldWin(int from, int to) throws IndexOutOfBoundsException, IllegalStateException {
        needPossible(from, to);
        return advice.isWinning(state.board, from, to);
    }

    public int winningMoves(int side) throws IndexOutOfBoundsException {
        needSide(side);
        return advice.countWinning(state.board, side);
    }

    public int moveAt(int side, int place) throws IndexOutOfBoundsException {
        needSide(side);
        state.board.listMoves(side, list);
        if (place < 0 || place >= list.count) {
            throw new IndexOutOfBoundsException("the side has no such move");
        }
        return list.codeAt(place);
    }

    // ---- the way of the king; nothing is changed

    public int kingMovesByRounds() throws IllegalStateException {
        int rounds = way.byRounds(state.board);
        if (rounds < 0) {
            throw new IllegalStateException("no king can come to a corner");
        }
        return rounds;
    }

    public int kingMovesByCorners() throws IllegalStateException {
        int least = way.byCorners(state.board);
        if (least < 0) {
            throw new IllegalStateException("no king can come to a corner");
        }
        return least;
    }

    public int openCorners() {
        return state.board.countOpenCorners();
    }

    public int kingReach() {
        return way.countReached(state.board);
    }

    public int kingPressure() throws IllegalStateException {
        needKing();
        return state.board.countHostileBesideKing();
    }

    // ---- advice; nothing is changed

    public int worthOf(int from, int to) throws IndexOutOfBoundsException, IllegalStateException {
        needPossible(from, to);
        return advice.worth(state.board, from, to);
    }

    public int bestMove(int side) throws IndexOutOfBoundsException, IllegalStateException {
        needSide(side);
        state.board.listMoves(side, list);
        if (list.count == 0) {
            throw new IllegalStateException("the side has no move");
        }
        int best = -1;
        int most = 0;
        for (int place = 0; place < list.count; place++) {
            int code = list.codeAt(place);
            int worth = advice.worth(state.board, code / SQUARES, code % SQUARES);
            if (best < 0 || worth > most) {
                best = code;
                most = worth;
            }
        }
        return best;
    }

    // ---- accounts; nothing is changed

    public int wins(int side) throws IndexOutOfBoundsException {
        needSide(side);
        return side == 0 ? state.winsOfFirst : state.winsOfSecond;
    }

    public int draws() {
        return state.drawnGames;
    }

    public int takenOf(int side) throws IndexOutOfBoundsException {
        needSide(side);
        return side == 0 ? state.takenOfFirst : state.takenOfSecond;
    }

    public int allMoves() {
        return state.movesInAll;
    }

    public double meanMoves() {
        return (double) movesOfBoth() / 2.0;
    }

    public long digest() {
        long hash = mixSquares(HASH_START);
        hash = mixGame(hash);
        hash = mixMoves(hash, 0);
        hash = mixMoves(hash, 1);
        hash = mixKing(hash);
        hash = mixAccounts(hash);
        return mixBuffer(hash);
    }

    private static long mix(long hash, long value) {
        return 31L * hash + value;
    }

    private long mixSquares(long start) {
        long hash = start;
        Board board = state.board;
        for (int square = 0; square < SQUARES; square++) {
            hash = mix(hash, board.at(square));
            hash = mix(hash, board.hostileTo(0, square) ? 1 : 0);
            hash = mix(hash, board.hostileTo(1, square) ? 1 : 0);
            hash = mix(hash, board.countFrom(square));
        }
        return hash;
    }

    private long mixGame(long start) {
        Board board = state.board;
        long hash = mix(start, board.countPieces(0));
        hash = mix(hash, board.countPieces(1));
        hash = mix(hash, board.king + 1);
        hash = mix(hash, board.strong ? 1 : 0);
        hash = mix(hash, state.standing);
        hash = mix(hash, state.standing == GOES_ON ? state.mover + 1 : 0);
        hash = mix(hash, state.gameMoves);
        return mix(hash, state.timesThere());
    }

    private long mixMoves(long start, int side) {
        Board board = state.board;
        long hash = mix(start, board.countMoves(side));
        hash = mix(hash, board.countArrivals(side));
        hash = mix(hash, advice.countWinning(board, side));
        board.listMoves(side, list);
        hash = mix(hash, list.codeAt(0) + 1);
        return mix(hash, list.codeAt(list.count - 1) + 1);
    }

    private long mixKing(long start) {
        Board board = state.board;
        long hash = mix(start, Math.max(0, way.byRounds(board)));
        hash = mix(hash, Math.max(0, way.byCorners(board)));
        hash = mix(hash, board.countOpenCorners());
        hash = mix(hash, way.countReached(board));
        return mix(hash, board.king < 0 ? 0 : board.countHostileBesideKing() + 1);
    }

    private long mixAccounts(long start) {
        long hash = mix(start, state.winsOfFirst);
        hash = mix(hash, state.winsOfSecond);
        hash = mix(hash, state.drawnGames);
        hash = mix(hash, state.takenOfFirst);
        hash = mix(hash, state.takenOfSecond);
        hash = mix(hash, state.movesInAll);
        hash = mix(hash, saves.count);
        return mix(hash, bitsOfHalf(movesOfBoth()));
    }

    private long mixBuffer(long start) {
        long hash = start;
        for (int slot = 0; slot < SLOTS; slot++) {
            hash = mix(hash, slotTaken[slot] ? 1 : 0);
        }
        hash = mix(hash, buffer.length);
        for (int index = 0; index < buffer.length; index++) {
            hash = mix(hash, buffer.codeAt(index));
        }
        return hash;
    }

    private int movesOfBoth() {
        return state.board.countMoves(0) + state.board.countMoves(1);
    }

    /** The bits of the double whole / 2; by hand, for Double's functions are outside LANGUAGE.md. */
    private static long bitsOfHalf(int whole) {
        if (whole <= 0) {
            return 0L;
        }
        int top = 0;
        for (int bit = 1; bit < 31; bit++) {
            if ((whole >> bit) != 0) {
                top = bit;
            }
        }
        long fraction = ((long) whole << (52 - top)) & 0xFFFFFFFFFFFFFL;
        // 1023 stands for 2 to the power 0; one less, because the number is halved
        return ((long) (1022 + top) << 52) | fraction;
    }

    // ---- what calls need

    private static void needSquare(int row, int column) {
        if (row < 0 || row >= LINE || column < 0 || column >= LINE) {
            throw new IndexOutOfBoundsException("no such square");
        }
    }

    private static void needSquares(int from, int to) {
        if (from < 0 || from >= SQUARES || to < 0 || to >= SQUARES) {
            throw new IndexOutOfBoundsException("no such square");
        }
    }

    private static void needSide(int side) {
        if (side < 0 || side > 1) {
            throw new IndexOutOfBoundsException("no such side");
        }
    }

    private static void needSlot(int slot) {
        if (slot < 0 || slot >= SLOTS) {
            throw new IllegalArgumentException("slot is out of range");
        }
    }

    private void needKing() {
        if (state.board.king < 0) {
            throw new IllegalStateException("there is no king");
        }
    }

    private void needPossible(int from, int to) {
        needSquares(from, to);
        if (state.board.obstacle(from, to) != 0) {
            throw new IllegalStateException("the piece could not be moved so");
        }
    }

    // ---- squares and pieces

    private static boolean isCorner(int square) {
        return (CORNER_BITS >>> square & 1L) != 0;
    }

    /** The next square in a direction; -1 if it, or the square itself, is not on the board. */
    private static int beside(int square, int direction) {
        if (square < 0) {
            return -1;
        }
        switch (direction) {
            case UP:
                return square >= LINE ? square - LINE : -1;
            case LEFT:
                return square % LINE > 0 ? square - 1 : -1;
            case RIGHT:
                return square % LINE < LINE - 1 ? square + 1 : -1;
            default:
                return square < SQUARES - LINE ? square + LINE : -1;
        }
    }

    private static int opposite(int direction) {
        return DOWN - direction;
    }

    /** The direction of a straight way; -1 if the squares are one or not in a line. */
    private static int directionOf(int from, int to) {
        if (from == to) {
            return -1;
        }
        if (from / LINE == to / LINE) {
            return to < from ? LEFT : RIGHT;
        }
        if (from % LINE == to % LINE) {
            return to < from ? UP : DOWN;
        }
        return -1;
    }

    /** The side of a piece; -1 for nothing. */
    private static int sideOf(int piece) {
        if (piece == NOTHING) {
            return -1;
        }
        return piece == TABLE ? 0 : 1;
    }

    private static boolean mayStop(int piece, int square) {
        return piece == KING || (KING_ONLY_BITS >>> square & 1L) == 0;
    }

    /** The pieces on the squares, and whether the king is strong. */
    private static final class Board {
        private final int[] cells = new int[SQUARES];
        private int king = -1;
        private boolean strong;

        void copyFrom(Board other) {
            System.arraycopy(other.cells, 0, cells, 0, SQUARES);
            king = other.king;
            strong = other.strong;
        }

        void removeAll() {
            Arrays.fill(cells, NOTHING);
            king = -1;
        }

        void placeAll() {
            System.arraycopy(PIECES_SET_UP, 0, cells, 0, SQUARES);
            king = THRONE;
        }

        int at(int square) {
            return square < 0 || square >= SQUARES ? NOTHING : cells[square];
        }

        void set(int square, int piece) {
            if (square < 0 || square >= SQUARES) {
                return;
            }
            if (king == square) {
                king = -1;
            }
            if (piece == KING) {
                king = square;
            }
            cells[square] = piece;
        }

        boolean allowsPiece(int square, int piece) {
            if (piece == KING) {
                return king < 0 || king == square;
            }
            return piece == NOTHING || mayStop(piece, square);
        }

        int countPieces(int side) {
            int count = 0;
            for (int square = 0; square < SQUARES; square++) {
                if (sideOf(cells[square]) == side) {
                    count++;
                }
            }
            return count;
        }

        int countAll() {
            return countPieces(0) + countPieces(1);
        }

        /** False for a square that is not on the board. */
        boolean hostileTo(int side, int square) {
            if (square < 0 || square >= SQUARES) {
                return false;
            }
            int piece = cells[square];
            if (piece == NOTHING) {
                return (KING_ONLY_BITS >>> square & 1L) != 0;
            }
            return (CORNER_BITS >>> square & 1L) != 0 || (piece == TABLE) == (side == 1);
        }

        int countHostileBesideKing() {
            int count = 0;
            for (int direction = 0; direction < DIRECTIONS; direction++) {
                if (hostileTo(1, beside(king, direction))) {
                    count++;
                }
            }
            return count;
        }

        /** Why a piece cannot be moved so, by the numbers of reasonAgainst; 0 if it can. */
        int obstacle(int from, int to) {
            int piece = at(from);
            if (piece == NOTHING) {
                return 1;
            }
            int direction = directionOf(from, to);
            if (direction < 0) {
                return 2;
            }
            if (!isFreeTo(from, to, direction)) {
                return 3;
            }
            return mayStop(piece, to) ? 0 : 4;
        }

        private boolean isFreeTo(int from, int to, int direction) {
            int square = from;
            for (int step = 1; step < LINE; step++) {
                square = beside(square, direction);
                if (square < 0 || at(square) != NOTHING) {
                    return false;
                }
                if (square == to) {
                    return true;
                }
            }
            return false;
        }

        /** To how many squares the piece on a square could be moved. */
        int countFrom(int from) {
            int piece = at(from);
            if (piece == NOTHING) {
                return 0;
            }
            int count = 0;
            for (int direction = 0; direction < DIRECTIONS; direction++) {
                int to = beside(from, direction);
                for (int step = 1; step < LINE && to >= 0 && at(to) == NOTHING; step++) {
                    if (mayStop(piece, to)) {
                        count++;
                    }
                    to = beside(to, direction);
                }
            }
            return count;
        }

        int countMoves(int side) {
            int count = 0;
            for (int from = 0; from < SQUARES; from++) {
                if (sideOf(cells[from]) == side) {
                    count += countFrom(from);
                }
            }
            return count;
        }

        /** How many moves a side has, counted by the squares to which they go. */
        int countArrivals(int side) {
            int count = 0;
            for (int to = 0; to < SQUARES; to++) {
                if (cells[to] == NOTHING) {
                    count += countComing(side, to);
                }
            }
            return count;
        }

        private int countComing(int side, int to) {
            int count = 0;
            for (int direction = 0; direction < DIRECTIONS; direction++) {
                int from = beside(to, direction);
                for (int step = 1; step < LINE && from >= 0 && at(from) == NOTHING; step++) {
                    from = beside(from, direction);
                }
                int piece = at(from);
                if (sideOf(piece) == side && mayStop(piece, to)) {
                    count++;
                }
            }
            return count;
        }

        boolean hasMove(int side) {
            for (int from = 0; from < SQUARES; from++) {
                if (sideOf(cells[from]) == side && countFrom(from) > 0) {
                    return true;
                }
            }
            return false;
        }

        /** Lists the moves of a side by the squares from, then the squares to. */
        void listMoves(int side, MoveList moves) {
            moves.empty();
            for (int from = 0; from < SQUARES; from++) {
                if (sideOf(cells[from]) == side) {
                    listBackward(from, UP, moves);
                    listBackward(from, LEFT, moves);
                    listForward(from, RIGHT, moves);
                    listForward(from, DOWN, moves);
                }
            }
        }

        private void listForward(int from, int direction, MoveList moves) {
            int piece = at(from);
            int to = beside(from, direction);
            for (int step = 1; step < LINE && to >= 0 && at(to) == NOTHING; step++) {
                if (mayStop(piece, to)) {
                    moves.add(from, to);
                }
                to = beside(to, direction);
            }
        }

        /** Upward and to the left the farthest square has the least number, and so comes first. */
        private void listBackward(int from, int direction, MoveList moves) {
            int piece = at(from);
            int to = from;
            int free = 0;
            int next = beside(from, direction);
            for (int step = 1; step < LINE && next >= 0 && at(next) == NOTHING; step++) {
                to = next;
                free++;
                next = beside(to, direction);
            }
            for (int left = free; left > 0; left--) {
                if (mayStop(piece, to)) {
                    moves.add(from, to);
                }
                to = beside(to, opposite(direction));
            }
        }

        /** Moves a piece, and takes away what is taken by that. Returns how many pieces that are. */
        int carryOut(int from, int to) {
            int piece = at(from);
            int side = sideOf(piece);
            set(from, NOTHING);
            set(to, piece);
            // all are looked at before any is taken away
            int caught = 0;
            for (int direction = 0; direction < DIRECTIONS; direction++) {
                if (isCaught(to, direction, 1 - side)) {
                    caught |= 1 << direction;
                }
            }
            int taken = 0;
            for (int direction = 0; direction < DIRECTIONS; direction++) {
                if ((caught >> direction & 1) != 0) {
                    set(beside(to, direction), NOTHING);
                    taken++;
                }
            }
            return taken;
        }

        /** Whether a piece of the side stands beside the moved one, in the direction, and is taken. */
        private boolean isCaught(int moved, int direction, int side) {
            int square = beside(moved, direction);
            int piece = at(square);
            if (sideOf(piece) != side) {
                return false;
            }
            if (piece == KING && needsFour()) {
                return countHostileBesideKing() == DIRECTIONS;
            }
            return hostileTo(side, beside(square, direction));
        }

        private boolean needsFour() {
            boolean besideThrone = king == THRONE - LINE || king == THRONE - 1
                    || king == THRONE + 1 || king == THRONE + LINE;
            return strong || king == THRONE || besideThrone;
        }

        /** Whether the move to the square, that was carried out, won for the side of its piece. */
        boolean isWonBy(int to, boolean hadKing) {
            int piece = at(to);
            if (hadKing && king < 0) {
                return true;
            }
            if (piece == KING && isCorner(to)) {
                return true;
            }
            return !hasMove(1 - sideOf(piece));
        }

        int countOpenCorners() {
            int count = 0;
            for (int corner : CORNERS) {
                if (king >= 0 && obstacle(king, corner) == 0) {
                    count++;
                }
            }
            return count;
        }
    }

    /** Moves as numbers: 49 times the square from, and the square to, together. */
    private static final class MoveList {
        // a piece comes to 12 squares at most
        private static final int LIMIT = 12 * SQUARES;

        private final int[] codes = new int[LIMIT];
        private int count;

        void empty() {
            count = 0;
        }

        void add(int from, int to) {
            if (count < LIMIT) {
                codes[count] = SQUARES * from + to;
                count++;
            }
        }

        /** -1 if there is no such place. */
        int codeAt(int place) {
            return place < 0 || place >= count ? -1 : codes[place];
        }
    }

    /** A position of a game, with the chain of those before it. */
    private static final class Position {
        // more than an object's 512 calls can make; longer chains only cost room
        private static final int LIMIT = 1000;
        private static final int FIRST_PART = 25;

        private final long first;
        private final long second;
        private final int side;
        private final Position before;
        private final int length;
        private final int seen;

        Position(Board board, int mover, Position earlier) {
            first = pack(board, 0, FIRST_PART);
            second = pack(board, FIRST_PART, SQUARES);
            side = mover;
            before = earlier != null && earlier.length < LIMIT ? earlier : null;
            length = before == null ? 1 : before.length + 1;
            seen = 1 + timesIn(before, first, second, mover);
        }

        private static long pack(Board board, int begin, int end) {
            long packed = 0;
            for (int square = begin; square < end; square++) {
                packed = packed << 2 | board.at(square);
            }
            return packed;
        }

        /** The nearest like position tells how often it was there. */
        private static int timesIn(Position latest, long first, long second, int side) {
            Position position = latest;
            for (int count = 0; count < LIMIT && position != null; count++) {
                if (position.first == first && position.second == second && position.side == side) {
                    return position.seen;
                }
                position = position.before;
            }
            return 0;
        }
    }

    /** All that snapshots and saved states hold. */
    private static final class State {
        private final Board board = new Board();
        private int standing;
        private int mover;
        private int gameMoves;
        private Position latest;
        private int winsOfFirst;
        private int winsOfSecond;
        private int drawnGames;
        private int takenOfFirst;
        private int takenOfSecond;
        private int movesInAll;

        void copyFrom(State other) {
            board.copyFrom(other.board);
            standing = other.standing;
            mover = other.mover;
            gameMoves = other.gameMoves;
            // positions are never changed, so the chain can be shared
            latest = other.latest;
            winsOfFirst = other.winsOfFirst;
            winsOfSecond = other.winsOfSecond;
            drawnGames = other.drawnGames;
            takenOfFirst = other.takenOfFirst;
            takenOfSecond = other.takenOfSecond;
            movesInAll = other.movesInAll;
        }

        void beginSetUp() {
            board.placeAll();
            begin(0);
        }

        void endAndClear() {
            board.removeAll();
            standing = NOT_BEGUN;
            mover = 0;
            gameMoves = 0;
            latest = null;
        }

        void begin(int side) {
            standing = GOES_ON;
            mover = side;
            gameMoves = 0;
            latest = new Position(board, side, null);
        }

        /** 0 if no game was begun. */
        int timesThere() {
            return latest == null ? 0 : latest.seen;
        }

        boolean allowsMove(int from, int to) {
            return standing == GOES_ON && sideOf(board.at(from)) == mover && board.obstacle(from, to) == 0;
        }

        int makeMove(int from, int to) {
            int taken = board.carryOut(from, to);
            if (mover == 0) {
                takenOfSecond += taken;
            } else {
                takenOfFirst += taken;
            }
            gameMoves++;
            movesInAll++;
            mover = 1 - mover;
            latest = new Position(board, mover, latest);
            judge(to);
            return taken;
        }

        /** A win comes before a draw. */
        private void judge(int to) {
            if (board.isWonBy(to, true)) {
                int winner = 1 - mover;
                standing = WON_BY_FIRST + winner;
                if (winner == 0) {
                    winsOfFirst++;
                } else {
                    winsOfSecond++;
                }
            } else if (timesThere() >= 3) {
                standing = DRAWN;
                drawnGames++;
            }
        }
    }

    /** The saved states, the oldest of which gives way to a new one. */
    private static final class Saves {
        private static final int LIMIT = 6;

        private final State[] states = new State[LIMIT];
        private int oldest;
        private int count;

        Saves() {
            for (int index = 0; index < LIMIT; index++) {
                states[index] = new State();
            }
        }

        void push(State state) {
            if (count == LIMIT) {
                oldest = (oldest + 1) % LIMIT;
                count--;
            }
            states[(oldest + count) % LIMIT].copyFrom(state);
            count++;
        }

        void popInto(State state) {
            if (count > 0) {
                count--;
                state.copyFrom(states[(oldest + count) % LIMIT]);
            }
        }
    }

    /** The buffer, and how it is read. */
    private static final class MoveText {
        private static final int PART = 5;
        private static final int LIMIT = 60;

        private final int[] codes = new int[LIMIT];
        private int length;

        boolean isFull() {
            return length >= LIMIT;
        }

        void add(int code) {
            if (!isFull()) {
                codes[length] = code;
                length++;
            }
        }

        void empty() {
            length = 0;
        }

        /** 0 if there is no such index. */
        int codeAt(int index) {
            return index < 0 || index >= length ? 0 : codes[index];
        }

        int errorIndex() {
            for (int index = 0; index < length; index++) {
                if (!fits(codeAt(index), index % PART)) {
                    return index;
                }
            }
            return length;
        }

        private static boolean fits(int code, int place) {
            switch (place) {
                case 0:
                case 2:
                    return code >= 'a' && code <= 'g';
                case 1:
                case 3:
                    return code >= '1' && code <= '7';
                default:
                    return code == ';';
            }
        }

        boolean tellsMoves() {
            return length % PART == PART - 1 && errorIndex() == length;
        }

        int parts() {
            return (length + 1) / PART;
        }

        /** The square that a letter and the digit behind it tell, once the text tells moves. */
        int squareAt(int index) {
            return LINE * (codeAt(index + 1) - '1') + codeAt(index) - 'a';
        }
    }

    /** What moves would bring, tried on boards of its own. */
    private static final class Advice {
        private final Board behind = new Board();
        private final Board reply = new Board();
        private final MoveList replies = new MoveList();

        int takes(Board board, int from, int to) {
            behind.copyFrom(board);
            return behind.carryOut(from, to);
        }

        boolean isWinning(Board board, int from, int to) {
            reply.copyFrom(board);
            reply.carryOut(from, to);
            return reply.isWonBy(to, board.king >= 0);
        }

        int countWinning(Board board, int side) {
            board.listMoves(side, replies);
            int count = 0;
            for (int place = 0; place < replies.count; place++) {
                int code = replies.codeAt(place);
                if (isWinning(board, code / SQUARES, code % SQUARES)) {
                    count++;
                }
            }
            return count;
        }

        int worth(Board board, int from, int to) {
            int side = sideOf(board.at(from));
            int taken = takes(board, from, to);
            if (behind.isWonBy(to, board.king >= 0)) {
                return 1000;
            }
            return 20 * taken - 100 * countWinning(behind, 1 - side);
        }
    }

    /** How the king comes to corners if nobody else moves. */
    private static final class KingWay {
        private final int[] rounds = new int[SQUARES];
        private final int[] queue = new int[SQUARES];
        private int reached;

        /** -1 if there is no king, or he cannot come to a corner. */
        int byRounds(Board board) {
            spread(board, board.king);
            int least = -1;
            for (int corner : CORNERS) {
                least = lesser(least, roundOf(corner));
            }
            return least;
        }

        /** -1 if there is no king, or he cannot come to a corner. */
        int byCorners(Board board) {
            if (board.king < 0) {
                return -1;
            }
            int least = -1;
            for (int corner : CORNERS) {
                spread(board, corner);
                least = lesser(least, roundOf(board.king));
            }
            return least;
        }

        int countReached(Board board) {
            spread(board, board.king);
            return Math.max(0, reached - 1);
        }

        private static int lesser(int least, int candidate) {
            if (candidate < 0) {
                return least;
            }
            return least < 0 ? candidate : Math.min(least, candidate);
        }

        /**
         * Tells each square's king moves from the begin, -1 if it cannot be reached. Since the king
         * may stop anywhere, a way forward is a way backward too.
         */
        private void spread(Board board, int begin) {
            Arrays.fill(rounds, -1);
            reached = 0;
            if (begin < 0) {
                return;
            }
            note(begin, 0);
            for (int next = 0; next < SQUARES && next < reached; next++) {
                for (int direction = 0; direction < DIRECTIONS; direction++) {
                    spreadFrom(board, queue[next], direction);
                }
            }
        }

        private void spreadFrom(Board board, int from, int direction) {
            int round = roundOf(from) + 1;
            int to = beside(from, direction);
            for (int step = 1; step < LINE && isFree(board, to); step++) {
                if (roundOf(to) < 0) {
                    note(to, round);
                }
                to = beside(to, direction);
            }
        }

        /** The king's own square is free once he has left it. */
        private static boolean isFree(Board board, int square) {
            return square >= 0 && (square == board.king || board.at(square) == NOTHING);
        }

        private int roundOf(int square) {
            return square < 0 || square >= SQUARES ? -1 : rounds[square];
        }

        private void note(int square, int round) {
            if (square >= 0 && square < SQUARES && reached < SQUARES) {
                rounds[square] = round;
                queue[reached] = square;
                reached++;
            }
        }
    }
}
