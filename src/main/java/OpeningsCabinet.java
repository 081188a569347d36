import java.util.ArrayList;
import java.util.Arrays;
import java.util.NoSuchElementException;

/** A cabinet of chess openings: a present game, two shelves of games, and what can be asked of them. */
public final class OpeningsCabinet {
    /** None. */
    public static final int NONE = -1;
    /** States. */
    public static final int GOING = 0, MATE = 1, STALE = 2, DEAD = 3, REPEATED = 4, QUIET = 5;
    /** What a pattern asks besides the pieces. */
    public static final int WHITE = 13, BLACK = 14, ANY = 15;

    private static final int KING = 1, QUEEN = 2, ROOK = 3, BISHOP = 4, KNIGHT = 5, PAWN = 6;
    /** What is added to a kind for a black piece. */
    private static final int DARK = 6;
    private static final int WHITE_RIGHTS = 3, BLACK_RIGHTS = 12, ALL_RIGHTS = 15;
    private static final int LEAST_SIDE = 4, MOST_SIDE = 8, MOST_SQUARES = 64;
    /** No piece has more than the 27 moves of a queen on an empty board. */
    private static final int MOST_MOVES = 27 * MOST_SQUARES;
    private static final int MOST_MADE = 80, MOST_GAMES = 40, MOST_BYTES = 500;
    /** How many numbers a position takes in a row of saved positions. */
    private static final int SAVED = 5;
    private static final String PIECES = " KQRBNPkqrbnp";
    private static final String RIGHTS = "KQkq";

    private final Board board = new Board();
    private final Rules rules = new Rules(board);
    private final Position present = new Position(board);
    private final Position scratch = new Position(board);
    private final Game game = new Game(MOST_MADE);
    private final MoveList list = new MoveList(board, rules);
    private final MovesReader reader = new MovesReader(board, list);
    private final Papers papers = new Papers(board);
    private final Shelf ownShelf = new Shelf();
    private final Shelf otherShelf = new Shelf();
    private final Continuations followers = new Continuations(list);
    private final Search search = new Search(board, rules);
    private final Endings endings = new Endings(board);
    private final StringBuilder text = new StringBuilder();
    private final StringBuilder output = new StringBuilder();
    private final int[] pattern = new int[MOST_SQUARES];
    private int movesAside = 0;
    private int drillCount = 0;

    /** Creates a cabinet with empty shelves and the usual first position of chess. */
    public OpeningsCabinet() {
        board.lay(MOST_SIDE, MOST_SIDE);
        present.setUpUsual();
        game.begin(present);
        Arrays.fill(pattern, ANY);
    }

    // ---- setting up

    /** Takes a new board and empties all but the text and the output; returns the number of its squares. */
    public int newBoard(int files, int ranks) throws IllegalArgumentException {
        if (files < LEAST_SIDE || files > MOST_SIDE || ranks < LEAST_SIDE || ranks > MOST_SIDE) {
            throw new IllegalArgumentException("a board has 4 to 8 files and ranks");
        }
        board.lay(files, ranks);
        present.clear();
        game.begin(present);
        ownShelf.clear();
        otherShelf.clear();
        drillCount = 0;
        endings.forget();
        Arrays.fill(pattern, ANY);
        return board.size;
    }

    /** Begins the present game anew at the present position; returns the number of moves made before. */
    public int startHere() {
        int before = game.length;
        game.begin(present);
        return before;
    }

    /** Puts a piece on a square, or empties it; returns what stood there. */
    public int put(int square, int piece)
            throws IndexOutOfBoundsException, IllegalArgumentException, IllegalStateException {
        mustBeSquare(square);
        if (piece < 0 || piece > PAWN + DARK) {
            throw new IllegalArgumentException("no such piece");
        }
        mustBeUnmoved();
        int before = present.pieceOn(square);
        present.place(square, piece);
        present.rights = 0;
        present.passing = NONE;
        game.begin(present);
        return before;
    }

    /** Sets the side to move and the rights; returns the rights before. */
    public int setSide(boolean isWhite, int rights) throws IllegalArgumentException, IllegalStateException {
        if (rights < 0 || rights > ALL_RIGHTS) {
            throw new IllegalArgumentException("rights are 0 to 15");
        }
        mustBeUnmoved();
        int before = present.rights;
        present.isWhite = isWhite;
        present.rights = rights;
        present.passing = NONE;
        game.begin(present);
        return before;
    }

    /** Takes the text as a paper and makes its position the first one; returns the number of pieces. */
    public int readPaper() throws IllegalArgumentException, IllegalStateException {
        boolean isPaper = papers.reads(text, scratch);
        text.setLength(0);
        if (!isPaper) {
            throw new IllegalArgumentException("no paper of a proper position on this board");
        }
        mustBeUnmoved();
        present.copy(scratch);
        game.begin(present);
        return Long.bitCount(present.occupied());
    }

    // ---- the position

    /** Returns what stands on a square. */
    public int pieceAt(int square) throws IndexOutOfBoundsException {
        mustBeSquare(square);
        return present.pieceOn(square);
    }

    /** Tells whether White is to move. */
    public boolean isWhiteToMove() {
        return present.isWhite;
    }

    /** Returns the rights. */
    public int rights() {
        return present.rights;
    }

    /** Returns the passing square, or NONE. */
    public int passingSquare() {
        return present.passing;
    }

    /** Tells whether the present position is proper. */
    public boolean isProper() {
        return present.isLawful();
    }

    /** Tells whether a square is attacked by a side. */
    public boolean isAttacked(int square, boolean byWhite) throws IndexOutOfBoundsException {
        mustBeSquare(square);
        return present.attackers(square, byWhite, present.occupied()) != 0;
    }

    /** Counts the pieces that attack the king of the side to move. */
    public int checkers() throws IllegalStateException {
        mustBeLawful();
        int king = present.kingOf(present.isWhite);
        return Long.bitCount(present.attackers(king, !present.isWhite, present.occupied()));
    }

    /** Tells whether the piece on a square is pinned. */
    public boolean isPinned(int square) throws IndexOutOfBoundsException, IllegalStateException {
        mustBeSquare(square);
        mustBeLawful();
        return present.shieldsKing(square);
    }

    /** Writes the paper of the present position to the output; returns the number of its bytes. */
    public int writePaper() {
        papers.write(present, output);
        return output.length();
    }

    /** Returns a byte of the output. */
    public int outputByte(int index) throws IndexOutOfBoundsException {
        if (index < 0 || index >= output.length()) {
            throw new IndexOutOfBoundsException("no such byte");
        }
        return output.charAt(index);
    }

    /** Returns the sum of the worths of the pieces of a side. */
    public int material(boolean ofWhite) {
        long side = present.ofSide(ofWhite);
        return 9 * Long.bitCount(present.ofKind(QUEEN) & side)
                + 5 * Long.bitCount(present.ofKind(ROOK) & side)
                + 3 * Long.bitCount((present.ofKind(BISHOP) | present.ofKind(KNIGHT)) & side)
                + Long.bitCount(present.ofKind(PAWN) & side);
    }

    /** Tells whether no pawn stands on a file. */
    public boolean isOpenFile(int file) throws IndexOutOfBoundsException {
        if (file < 0 || file >= board.files) {
            throw new IndexOutOfBoundsException("no such file");
        }
        return (present.ofKind(PAWN) & board.squaresOfFile(file)) == 0;
    }

    // ---- moves

    /** Counts the moves of the present position. */
    public int moveCount() throws IllegalStateException {
        mustBeLawful();
        return rules.numberOfMoves(present);
    }

    /** Returns the square from which a move goes. */
    public int moveFrom(int move) throws IllegalStateException, IndexOutOfBoundsException {
        return fromOf(codeOf(move));
    }

    /** Returns the square to which a move goes. */
    public int moveTo(int move) throws IllegalStateException, IndexOutOfBoundsException {
        return toOf(codeOf(move));
    }

    /** Returns what a pawn becomes by a move, 0 if nothing else. */
    public int moveBecomes(int move) throws IllegalStateException, IndexOutOfBoundsException {
        return becomesOf(codeOf(move));
    }

    /** Writes the letters of a move to the output; returns the number of its bytes. */
    public int writeMove(int move) throws IllegalStateException, IndexOutOfBoundsException {
        codeOf(move);
        long word = list.wordOf(move);
        output.setLength(0);
        for (int shift = 56; shift >= 0; shift -= 8) {
            char letter = (char) (word >>> shift & 255);
            if (letter != 0) {
                output.append(letter);
            }
        }
        return output.length();
    }

    /** Makes a move; returns the state of the position then. */
    public int play(int move) throws IllegalStateException, IndexOutOfBoundsException {
        mustBeLawful();
        if (game.length >= MOST_MADE) {
            throw new IllegalStateException("80 moves were made");
        }
        make(codeOf(move));
        return stateNow();
    }

    /** Takes the last move back; returns the number of moves that are left. */
    public int takeBack() throws IllegalStateException {
        if (game.length == 0) {
            throw new IllegalStateException("no move was made");
        }
        game.length--;
        present.load(game.places, game.length);
        return game.length;
    }

    /** Returns the number of moves that were made. */
    public int madeCount() {
        return game.length;
    }

    /** Returns the state of the present position. */
    public int state() throws IllegalStateException {
        mustBeLawful();
        return stateNow();
    }

    /** Counts how often the present position stood in the present game up to now. */
    public int repetitions() {
        return game.timesOf(present);
    }

    /** Counts the rows of moves from the present position; joining the same positions would give the same number. */
    public int countMoves(int depth, boolean isJoined) throws IllegalArgumentException, IllegalStateException {
        if (depth < 1 || depth > 3) {
            throw new IllegalArgumentException("the depth is 1 to 3");
        }
        mustBeLawful();
        return search.rowsOfMoves(present, depth);
    }

    // ---- texts

    /** Puts up to 8 bytes behind the text; returns its length. */
    public int type(long bytes) throws IllegalArgumentException, IllegalStateException {
        int added = 0;
        for (int shift = 56; shift >= 0; shift -= 8) {
            int sign = (int) (bytes >>> shift & 255);
            if (sign != 0 && (sign < 32 || sign > 126)) {
                throw new IllegalArgumentException("a byte of a text is 32 to 126");
            }
            added += sign == 0 ? 0 : 1;
        }
        if (text.length() + added > MOST_BYTES) {
            throw new IllegalStateException("a text has at most 500 bytes");
        }
        for (int shift = 56; shift >= 0; shift -= 8) {
            char sign = (char) (bytes >>> shift & 255);
            if (sign != 0) {
                text.append(sign);
            }
        }
        return text.length();
    }

    /** Empties the text; returns the length that it had. */
    public int clearText() {
        int before = text.length();
        text.setLength(0);
        return before;
    }

    /** Returns the fault of the text as a text of moves, NONE if it has none. */
    public int fault() throws IllegalStateException {
        mustBeLawful();
        return reader.read(text, present, MOST_MADE - game.length);
    }

    /** Takes the text as a text of moves and makes the moves of its line; returns their number. */
    public int readMoves() throws IllegalStateException, IllegalArgumentException {
        boolean isLawful = isFirstLawful();
        int place = isLawful ? reader.read(text, present, MOST_MADE - game.length) : NONE;
        text.setLength(0);
        if (!isLawful) {
            throw new IllegalStateException("the first position is not proper");
        }
        if (place != NONE) {
            throw new IllegalArgumentException("the text has a fault");
        }
        int read = reader.lineLength();
        for (int i = 0; i < read; i++) {
            make(reader.lineMove(i));
        }
        movesAside = reader.movesAside;
        return read;
    }

    /** Counts the moves in variations of the latest text that was read. */
    public int variationMoves() {
        return movesAside;
    }

    // ---- shelves

    /** Adds the present game to a shelf; returns its number. */
    public int addGame(int shelf, int result, int year, int strength)
            throws IndexOutOfBoundsException, IllegalArgumentException, IllegalStateException {
        Shelf games = shelfOf(shelf);
        if (result < 0 || result > 2 || year < 1800 || year > 2100 || strength < 0 || strength > 3500) {
            throw new IllegalArgumentException("the result, the year or the strength is out of range");
        }
        mustBeLawful();
        if (games.size() >= MOST_GAMES) {
            throw new IllegalStateException("the shelf has 40 games");
        }
        games.add(game.copyWith(result, year, strength));
        return games.size() - 1;
    }

    /** Returns the number of games of a shelf. */
    public int gameCount(int shelf) throws IndexOutOfBoundsException {
        return shelfOf(shelf).size();
    }

    /** Returns the number of moves of a game. */
    public int gameLength(int shelf, int game) throws IndexOutOfBoundsException {
        return gameOf(shelf, game).length;
    }

    /** Counts the different positions through which the games of a shelf pass. */
    public int positionCount(int shelf) throws IndexOutOfBoundsException {
        return shelfOf(shelf).differentPositions();
    }

    /** Counts the games of a shelf that pass through the present position. */
    public int count(int shelf) throws IndexOutOfBoundsException {
        return shelfOf(shelf).passing(present, NONE);
    }

    /** Counts those of them that have a result. */
    public int countWith(int shelf, int result) throws IndexOutOfBoundsException, IllegalArgumentException {
        Shelf games = shelfOf(shelf);
        if (result < 0 || result > 2) {
            throw new IllegalArgumentException("a result is 0 to 2");
        }
        return games.passing(present, result);
    }

    /** Counts those of them that are of some years. */
    public int countYears(int shelf, int from, int to) throws IndexOutOfBoundsException, IllegalArgumentException {
        Shelf games = shelfOf(shelf);
        if (from > to) {
            throw new IllegalArgumentException("the first year is behind the last one");
        }
        return games.passingInYears(present, from, to);
    }

    /** Returns the top or the bottom of the mean strength of those of them. */
    public int meanStrength(int shelf, boolean isBottom) throws IndexOutOfBoundsException, NoSuchElementException {
        Shelf games = shelfOf(shelf);
        int number = games.passing(present, NONE);
        if (number == 0) {
            throw new NoSuchElementException("no game passes through the present position");
        }
        int sum = games.strengthsPassing(present);
        int divisor = greatestDivisor(sum, number);
        if (divisor == 0) {
            return 0;
        }
        return (isBottom ? number : sum) / divisor;
    }

    /** Counts the continuations of the present position on a shelf. */
    public int continuations(int shelf) throws IndexOutOfBoundsException, IllegalStateException {
        Shelf games = shelfOf(shelf);
        mustBeLawful();
        followers.gather(games, present);
        return followers.number();
    }

    /** Returns the number of the move of a continuation. */
    public int continuationAt(int shelf, int index) throws IllegalStateException, IndexOutOfBoundsException {
        mustBeLawful();
        followers.gather(shelfOf(shelf), present);
        return followerAt(index);
    }

    /** Returns the number of games of a continuation. */
    public int gamesOf(int shelf, int index) throws IllegalStateException, IndexOutOfBoundsException {
        mustBeLawful();
        followers.gather(shelfOf(shelf), present);
        return followers.gamesWith(followerAt(index));
    }

    /** Makes main moves, as long as there is one and as moves are asked; returns their number. */
    public int playMain(int shelf, int moves)
            throws IndexOutOfBoundsException, IllegalArgumentException, IllegalStateException {
        Shelf games = shelfOf(shelf);
        if (moves < 1 || moves > MOST_MADE) {
            throw new IllegalArgumentException("1 to 80 moves can be asked");
        }
        mustBeLawful();
        int made = 0;
        while (made < moves && game.length < MOST_MADE) {
            followers.gather(games, present);
            int main = followers.mainMove();
            if (main == NONE) {
                break;
            }
            make(list.codeAt(main));
            made++;
        }
        return made;
    }

    /** Returns the number of moves of a game up to its first position that is not known to it, or NONE. */
    public int firstNew(int shelf, int game) throws IndexOutOfBoundsException {
        return gameOf(shelf, game).firstFresh();
    }

    /** Merges the shelves; returns the number of games that came to the shelf 0. */
    public int merge() {
        int came = 0;
        for (int i = 0; i < otherShelf.size(); i++) {
            Game next = otherShelf.gameAt(i);
            if (next != null && ownShelf.size() < MOST_GAMES && !ownShelf.hasLike(next)) {
                next.box = 0;
                next.due = 0;
                ownShelf.add(next);
                came++;
            }
        }
        otherShelf.clear();
        return came;
    }

    // ---- patterns

    /** Sets what the pattern asks of a square; returns what it asked before. */
    public int ask(int square, int what) throws IndexOutOfBoundsException, IllegalArgumentException {
        mustBeSquare(square);
        if (what < 0 || what > ANY) {
            throw new IllegalArgumentException("a pattern asks 0 to 15");
        }
        int before = ANY;
        if (square < pattern.length) {
            before = pattern[square];
            pattern[square] = what;
        }
        return before;
    }

    /** Tells whether the pattern holds in the present position. */
    public boolean holds() {
        return present.fits(pattern);
    }

    /** Counts the different positions of the games of a shelf in which the pattern holds. */
    public int patternCount(int shelf) throws IndexOutOfBoundsException {
        return shelfOf(shelf).positionsFitting(pattern, scratch);
    }

    // ---- forced mates, endings

    /** Returns in how many half moves the side to move forces mate: 1, 3 or NONE. */
    public int forcesMate() throws IllegalStateException {
        mustBeLawful();
        search.findKeys(present);
        return search.mateLength;
    }

    /** Counts the keys of the forced mate. */
    public int keyCount() throws IllegalStateException {
        mustBeLawful();
        search.findKeys(present);
        return search.keys;
    }

    /** Returns the number of the first key of the forced mate. */
    public int firstKey() throws IllegalStateException, NoSuchElementException {
        mustBeLawful();
        search.findKeys(present);
        if (search.keys == 0) {
            throw new NoSuchElementException("no mate is forced");
        }
        return search.earliestKey;
    }

    /** Solves the ending of a kind on the present board; returns the number of positions that White wins. */
    public int solve(int kind) throws IllegalArgumentException, IllegalStateException {
        mustBeEndingKind(kind);
        if (board.size > Endings.MOST_PLACES) {
            throw new IllegalStateException("the board has more than 25 squares");
        }
        endings.workOut(kind);
        return endings.winsOf(kind);
    }

    /** Returns the value of the present position by the ending of its kind, NONE if White does not win it. */
    public int endingValue() throws IllegalStateException {
        int kind = endings.kindOf(present);
        if (kind == NONE || !endings.isWorkedOut(kind)) {
            throw new IllegalStateException("no position of an ending that is solved");
        }
        return endings.valueOf(kind, present);
    }

    /** Returns the greatest value of the positions of an ending, NONE if White wins none. */
    public int longest(int kind) throws IllegalArgumentException, IllegalStateException {
        mustBeEndingKind(kind);
        if (!endings.isWorkedOut(kind)) {
            throw new IllegalStateException("the ending is not solved");
        }
        return endings.greatestOf(kind);
    }

    // ---- drills

    /** Returns the game of the shelf 0 that is asked. */
    public int asked() throws NoSuchElementException {
        return numberAsked();
    }

    /** Answers for the game that is asked; returns its box then. */
    public int answer(boolean isRight) throws NoSuchElementException {
        Game drilled = ownShelf.gameAt(numberAsked());
        if (drilled == null) {
            return 0;
        }
        drillCount++;
        drilled.box = isRight ? Math.min(drilled.box + 1, 4) : 0;
        drilled.due = drillCount + (1 << drilled.box);
        return drilled.box;
    }

    // ---- measures, the second way

    /** Returns the mean length of the games of a shelf, 0.0 without games. */
    public double meanLength(int shelf) throws IndexOutOfBoundsException {
        Shelf games = shelfOf(shelf);
        double number = (double) games.size();
        return number > 0.0 ? (double) games.movesOfAll() / number : 0.0;
    }

    /** Returns the share of games won by White among those that pass through the present position. */
    public float shareWon(int shelf) throws IndexOutOfBoundsException {
        Shelf games = shelfOf(shelf);
        float number = (float) games.passing(present, NONE);
        return number > 0.0f ? (float) games.passing(present, 0) / number : 0.0f;
    }

    /** Looks a second way at the counts of both shelves and at the letters of the moves; returns what differs. */
    public int errors() {
        int wrong = 0;
        if (ownShelf.passing(present, NONE) != ownShelf.replaysPassing(present, scratch)) {
            wrong++;
        }
        if (otherShelf.passing(present, NONE) != otherShelf.replaysPassing(present, scratch)) {
            wrong++;
        }
        return isFirstLawful() ? wrong + misreadMoves() : wrong;
    }

    // ---- what the calls share

    private void mustBeSquare(int square) {
        if (!board.has(square)) {
            throw new IndexOutOfBoundsException("no such square");
        }
    }

    private void mustBeUnmoved() {
        if (game.length > 0) {
            throw new IllegalStateException("a move was made");
        }
    }

    private void mustBeLawful() {
        if (!isFirstLawful()) {
            throw new IllegalStateException("the first position is not proper");
        }
    }

    private static void mustBeEndingKind(int kind) {
        if (kind < QUEEN || kind > KNIGHT) {
            throw new IllegalArgumentException("the kind of an ending is 2 to 5");
        }
    }

    /** Moves are made from proper positions alone, so a made move tells of the first position. */
    private boolean isFirstLawful() {
        return game.length > 0 || present.isLawful();
    }

    private Shelf shelfOf(int shelf) {
        if (shelf != 0 && shelf != 1) {
            throw new IndexOutOfBoundsException("no such shelf");
        }
        return shelf == 0 ? ownShelf : otherShelf;
    }

    private Game gameOf(int shelf, int number) {
        Game found = shelfOf(shelf).gameAt(number);
        if (found == null) {
            throw new IndexOutOfBoundsException("no such game");
        }
        return found;
    }

    private int codeOf(int move) {
        mustBeLawful();
        list.look(present);
        if (move < 0 || move >= list.size) {
            throw new IndexOutOfBoundsException("no such move");
        }
        return list.codeAt(move);
    }

    private int followerAt(int index) {
        int move = followers.moveAt(index);
        if (move == NONE) {
            throw new IndexOutOfBoundsException("no such continuation");
        }
        return move;
    }

    private int numberAsked() {
        int number = ownShelf.numberDue();
        if (number == NONE) {
            throw new NoSuchElementException("the shelf 0 is empty");
        }
        return number;
    }

    private void make(int code) {
        present.apply(code);
        game.addMove(code, present);
    }

    private int stateNow() {
        if (!rules.hasMove(present)) {
            return present.isInCheck() ? MATE : STALE;
        }
        if (present.isDead()) {
            return DEAD;
        }
        if (game.timesOf(present) >= 3) {
            return REPEATED;
        }
        return game.calmMoves() >= 40 ? QUIET : GOING;
    }

    private int misreadMoves() {
        int wrong = 0;
        list.look(present);
        for (int i = 0; i < list.size; i++) {
            if (list.numberOfWord(list.plainWord(i)) != i) {
                wrong++;
            }
        }
        return wrong;
    }

    private static int greatestDivisor(int one, int other) {
        int greater = one;
        int lesser = other;
        // Euclid's steps for numbers of 31 bits are fewer than 64.
        for (int step = 0; step < 64 && lesser != 0; step++) {
            int rest = greater % lesser;
            greater = lesser;
            lesser = rest;
        }
        return greater;
    }

    /** The number of the lowest square of a set that is not empty. */
    private static int lowest(long squares) {
        return Long.bitCount((squares & -squares) - 1);
    }

    private static boolean contains(long squares, int square) {
        return (squares >>> square & 1L) != 0;
    }

    /** A move is one number: the square from which it goes, the one to which it goes, and what a pawn becomes. */
    private static int moveOf(int from, int to, int becomes) {
        return from | to << 6 | becomes << 12;
    }

    private static int fromOf(int code) {
        return code & 63;
    }

    private static int toOf(int code) {
        return code >>> 6 & 63;
    }

    private static int becomesOf(int code) {
        return code >>> 12 & 7;
    }

    /** The shape of a board, and which squares can be seen from each of its squares. */
    private static final class Board {
        /** Four straight directions, then four slanting ones; of each four the first two go to greater squares. */
        private static final int[] FILE_STEPS = {1, 0, -1, 0, 1, -1, -1, 1};
        private static final int[] RANK_STEPS = {0, 1, 0, -1, 1, 1, -1, -1};
        private static final int[] LEAP_FILES = {1, 2, 2, 1, -1, -2, -2, -1};
        private static final int[] LEAP_RANKS = {2, 1, -1, -2, -2, -1, 1, 2};

        private int files = 0;
        private int ranks = 0;
        private int size = 0;
        /** The squares of the first and the last rank. */
        private long edges = 0;
        private final int[] fileOf = new int[MOST_SQUARES];
        private final int[] rankOf = new int[MOST_SQUARES];
        /** The squares from a square to the edge, by the square and the direction. */
        private final long[] rays = new long[MOST_SQUARES * 8];
        private final long[] kingSteps = new long[MOST_SQUARES];
        private final long[] knightSteps = new long[MOST_SQUARES];
        private final long[] whiteAims = new long[MOST_SQUARES];
        private final long[] blackAims = new long[MOST_SQUARES];
        private final long[] besides = new long[MOST_SQUARES];

        void lay(int newFiles, int newRanks) {
            files = newFiles;
            ranks = newRanks;
            size = Math.min(newFiles * newRanks, MOST_SQUARES);
            edges = 0;
            for (int rank = 0; rank < ranks; rank++) {
                for (int file = 0; file < files; file++) {
                    laySquare(rank * files + file, file, rank);
                }
            }
        }

        private void laySquare(int square, int file, int rank) {
            if (!has(square)) {
                return;
            }
            if (rank == 0 || rank == ranks - 1) {
                edges |= 1L << square;
            }
            fileOf[square] = file;
            rankOf[square] = rank;
            kingSteps[square] = 0;
            knightSteps[square] = 0;
            for (int i = 0; i < 8; i++) {
                rays[square * 8 + i] = ray(file, rank, FILE_STEPS[i], RANK_STEPS[i]);
                kingSteps[square] |= setOf(file + FILE_STEPS[i], rank + RANK_STEPS[i]);
                knightSteps[square] |= setOf(file + LEAP_FILES[i], rank + LEAP_RANKS[i]);
            }
            whiteAims[square] = setOf(file - 1, rank + 1) | setOf(file + 1, rank + 1);
            blackAims[square] = setOf(file - 1, rank - 1) | setOf(file + 1, rank - 1);
            besides[square] = setOf(file - 1, rank) | setOf(file + 1, rank);
        }

        private long ray(int file, int rank, int fileStep, int rankStep) {
            long squares = 0;
            for (int step = 1; step < MOST_SIDE; step++) {
                squares |= setOf(file + step * fileStep, rank + step * rankStep);
            }
            return squares;
        }

        /** The square there as a set, empty beyond the edges. */
        private long setOf(int file, int rank) {
            boolean isThere = file >= 0 && file < files && rank >= 0 && rank < ranks;
            return isThere ? 1L << (rank * files + file) : 0;
        }

        boolean has(int square) {
            return square >= 0 && square < size && square < MOST_SQUARES;
        }

        int fileAt(int square) {
            return square >= 0 && square < MOST_SQUARES ? fileOf[square] : NONE;
        }

        int rankAt(int square) {
            return square >= 0 && square < MOST_SQUARES ? rankOf[square] : NONE;
        }

        long besidesOf(int square) {
            return square >= 0 && square < MOST_SQUARES ? besides[square] : 0;
        }

        long pawnAimsOf(int square, boolean ofWhite) {
            if (square < 0 || square >= MOST_SQUARES) {
                return 0;
            }
            return ofWhite ? whiteAims[square] : blackAims[square];
        }

        long squaresOfFile(int file) {
            long squares = 0;
            for (int rank = 0; rank < ranks; rank++) {
                squares |= setOf(file, rank);
            }
            return squares;
        }

        /** The squares on which a piece other than a pawn attacks. */
        long reach(int kind, int square, long occupied) {
            if (!has(square)) {
                return 0;
            }
            switch (kind) {
                case KING:
                    return kingSteps[square];
                case KNIGHT:
                    return knightSteps[square];
                case QUEEN:
                    return slides(square, true, occupied) | slides(square, false, occupied);
                case ROOK:
                    return slides(square, true, occupied);
                case BISHOP:
                    return slides(square, false, occupied);
                default:
                    return 0;
            }
        }

        /** The squares along the straight or the slanting rows, up to and including the first that is occupied. */
        long slides(int square, boolean isStraight, long occupied) {
            if (square < 0 || square >= MOST_SQUARES) {
                return 0;
            }
            long seen = 0;
            int first = isStraight ? 0 : 4;
            for (int i = 0; i < 4; i++) {
                long ray = rays[square * 8 + first + i];
                long blockers = ray & occupied;
                if (i < 2) {
                    // Everything up to the least blocker; without one everything.
                    ray &= blockers ^ blockers - 1;
                } else {
                    // Everything from the greatest blocker on: what lies under it is filled up and left out.
                    blockers |= blockers >>> 1;
                    blockers |= blockers >>> 2;
                    blockers |= blockers >>> 4;
                    blockers |= blockers >>> 8;
                    blockers |= blockers >>> 16;
                    blockers |= blockers >>> 32;
                    ray &= ~(blockers >>> 1);
                }
                seen |= ray;
            }
            return seen;
        }
    }

    /** What stands on the squares, the side to move, the rights and the passing square. */
    private static final class Position {
        private final Board board;
        /** The squares of white pieces, and those of the pieces in whose kind the binary digit 1, 2 or 4 is set. */
        private long white = 0;
        private long one = 0;
        private long two = 0;
        private long four = 0;
        private boolean isWhite = true;
        private int rights = 0;
        private int passing = NONE;

        Position(Board board) {
            this.board = board;
        }

        void clear() {
            white = 0;
            one = 0;
            two = 0;
            four = 0;
            isWhite = true;
            rights = 0;
            passing = NONE;
        }

        void setUpUsual() {
            clear();
            String row = "RNBQKBNR";
            for (int file = 0; file < row.length(); file++) {
                int kind = PIECES.indexOf(row.charAt(file));
                place(file, kind);
                place(MOST_SIDE + file, PAWN);
                place(6 * MOST_SIDE + file, PAWN + DARK);
                place(7 * MOST_SIDE + file, kind + DARK);
            }
            rights = ALL_RIGHTS;
        }

        void copy(Position other) {
            white = other.white;
            one = other.one;
            two = other.two;
            four = other.four;
            isWhite = other.isWhite;
            rights = other.rights;
            passing = other.passing;
        }

        void save(long[] row, int index) {
            int start = index * SAVED;
            if (index < 0 || start < 0 || start + SAVED > row.length) {
                return;
            }
            row[start] = white;
            row[start + 1] = one;
            row[start + 2] = two;
            row[start + 3] = four;
            row[start + 4] = rest();
        }

        /** The side, the rights and the passing square as one number. */
        private long rest() {
            return (isWhite ? 1 : 0) + rights * 2 + (passing + 1) * 32L;
        }

        void load(long[] row, int index) {
            int start = index * SAVED;
            if (index < 0 || start < 0 || start + SAVED > row.length) {
                return;
            }
            white = row[start];
            one = row[start + 1];
            two = row[start + 2];
            four = row[start + 3];
            int rest = (int) row[start + 4];
            isWhite = (rest & 1) != 0;
            rights = rest >>> 1 & ALL_RIGHTS;
            passing = (rest >>> 5) - 1;
        }

        boolean isSavedAt(long[] row, int index) {
            int start = index * SAVED;
            if (index < 0 || start < 0 || start + SAVED > row.length) {
                return false;
            }
            return row[start] == white && row[start + 1] == one && row[start + 2] == two
                    && row[start + 3] == four && row[start + 4] == rest();
        }

        boolean isLike(Position other) {
            return white == other.white && one == other.one && two == other.two && four == other.four
                    && isWhite == other.isWhite && rights == other.rights && passing == other.passing;
        }

        long occupied() {
            return one | two | four;
        }

        long ofSide(boolean ofWhite) {
            return ofWhite ? white : (one | two | four) & ~white;
        }

        long ofKind(int kind) {
            long found = one | two | four;
            found &= (kind & 1) != 0 ? one : ~one;
            found &= (kind & 2) != 0 ? two : ~two;
            found &= (kind & 4) != 0 ? four : ~four;
            return found;
        }

        int kindOn(int square) {
            return (int) ((one >>> square & 1) + (two >>> square & 1) * 2 + (four >>> square & 1) * 4);
        }

        int pieceOn(int square) {
            int kind = kindOn(square);
            return kind == 0 || contains(white, square) ? kind : kind + DARK;
        }

        void place(int square, int piece) {
            long set = 1L << square;
            int kind = piece > DARK ? piece - DARK : piece;
            boolean isLight = piece > 0 && piece <= DARK;
            white = isLight ? white | set : white & ~set;
            one = (kind & 1) != 0 ? one | set : one & ~set;
            two = (kind & 2) != 0 ? two | set : two & ~set;
            four = (kind & 4) != 0 ? four | set : four & ~set;
        }

        /** The square of the king of a side, or NONE. */
        int kingOf(boolean ofWhite) {
            long kings = ofKind(KING) & (ofWhite ? white : ~white);
            return kings == 0 ? NONE : Long.bitCount((kings & -kings) - 1);
        }

        /** The pieces of a side that attack a square, if just the squares told are occupied. */
        long attackers(int square, boolean byWhite, long occupied) {
            if (!board.has(square)) {
                return 0;
            }
            long queens = ofKind(QUEEN);
            long found = board.kingSteps[square] & ofKind(KING)
                    | board.knightSteps[square] & ofKind(KNIGHT)
                    | board.pawnAimsOf(square, !byWhite) & ofKind(PAWN)
                    | board.slides(square, true, occupied) & (ofKind(ROOK) | queens)
                    | board.slides(square, false, occupied) & (ofKind(BISHOP) | queens);
            return found & ofSide(byWhite);
        }

        boolean isInCheck() {
            return attackers(kingOf(isWhite), !isWhite, occupied()) != 0;
        }

        /** Whether a piece of the side to move, not its king, hides the king from a sliding piece. */
        boolean shieldsKing(int square) {
            int king = kingOf(isWhite);
            if (king == NONE || square == king || !contains(ofSide(isWhite), square)) {
                return false;
            }
            long now = attackers(king, !isWhite, occupied());
            // What attacks only when the square is empty is a sliding piece.
            long then = attackers(king, !isWhite, occupied() & ~(1L << square));
            return (then & ~now) != 0;
        }

        /** Whether the position is proper. */
        boolean isLawful() {
            long kings = ofKind(KING);
            if (Long.bitCount(kings & white) != 1 || Long.bitCount(kings & ~white) != 1) {
                return false;
            }
            if ((ofKind(PAWN) & board.edges) != 0) {
                return false;
            }
            if (attackers(kingOf(!isWhite), isWhite, occupied()) != 0) {
                return false;
            }
            return hasSoundRights(true) && hasSoundRights(false);
        }

        private boolean hasSoundRights(boolean ofWhite) {
            int held = ofWhite ? rights & WHITE_RIGHTS : rights >>> 2;
            if (held == 0) {
                return true;
            }
            int home = ofWhite ? 0 : board.size - MOST_SIDE;
            int colour = ofWhite ? 0 : DARK;
            if (board.files != MOST_SIDE || pieceOn(home + 4) != KING + colour) {
                return false;
            }
            boolean isShortSound = (held & 1) == 0 || pieceOn(home + 7) == ROOK + colour;
            boolean isLongSound = (held & 2) == 0 || pieceOn(home) == ROOK + colour;
            return isShortSound && isLongSound;
        }

        /** Whether there is too little on the board for any mate. */
        boolean isDead() {
            long others = occupied() & ~ofKind(KING);
            long small = ofKind(BISHOP) | ofKind(KNIGHT);
            return others == 0 || Long.bitCount(others) == 1 && (others & small) != 0;
        }

        boolean fits(int[] pattern) {
            for (int square = 0; square < board.size && square < pattern.length; square++) {
                int what = pattern[square];
                int piece = pieceOn(square);
                boolean fits;
                if (what == WHITE) {
                    fits = piece >= KING && piece <= PAWN;
                } else if (what == BLACK) {
                    fits = piece > DARK;
                } else {
                    fits = what == ANY || what == piece;
                }
                if (!fits) {
                    return false;
                }
            }
            return true;
        }

        /** Makes a move of this position. */
        void apply(int code) {
            int from = fromOf(code);
            int to = toOf(code);
            int becomes = becomesOf(code);
            int piece = pieceOn(from);
            int kind = kindOn(from);
            int forward = isWhite ? board.files : -board.files;
            if (kind == PAWN && to == passing) {
                place(to - forward, 0);
            }
            if (kind == KING && to - from == 2) {
                place(from + 1, pieceOn(from + 3));
                place(from + 3, 0);
            }
            if (kind == KING && from - to == 2) {
                place(from - 1, pieceOn(from - 4));
                place(from - 4, 0);
            }
            place(from, 0);
            place(to, becomes == 0 ? piece : becomes + (isWhite ? 0 : DARK));
            if (rights != 0) {
                loseRights(from, to, kind);
            }
            boolean isFirstStep = kind == PAWN && to - from == 2 * forward;
            long rivals = ofKind(PAWN) & ofSide(!isWhite);
            passing = isFirstStep && (board.besidesOf(to) & rivals) != 0 ? from + forward : NONE;
            isWhite = !isWhite;
        }

        /** There are rights only on boards of 8 files, so the rooks' squares are the corners. */
        private void loseRights(int from, int to, int kind) {
            if (kind == KING) {
                rights &= isWhite ? BLACK_RIGHTS : WHITE_RIGHTS;
            }
            long touched = 1L << from | 1L << to;
            for (int right = 0; right < 4; right++) {
                int home = right < 2 ? 0 : board.size - MOST_SIDE;
                int corner = (right & 1) == 0 ? home + 7 : home;
                if (contains(touched, corner)) {
                    rights &= ~(1 << right);
                }
            }
        }
    }

    /** The moves of a position. */
    private static final class Rules {
        private final Board board;
        /** What look() saw of the latest position. */
        private int king = NONE;
        private long occupied = 0;
        private long own = 0;
        private boolean isInCheck = false;
        private long shields = 0;

        Rules(Board board) {
            this.board = board;
        }

        private void look(Position position) {
            boolean isWhite = position.isWhite;
            king = position.kingOf(isWhite);
            occupied = position.occupied();
            own = position.ofSide(isWhite);
            isInCheck = position.attackers(king, !isWhite, occupied) != 0;
            // Only the first pieces that the king sees can hide it; where nothing is behind them, none of them does.
            shields = board.reach(QUEEN, king, occupied) & own;
            if (position.attackers(king, !isWhite, occupied & ~shields) == 0) {
                shields = 0;
            }
        }

        boolean hasMove(Position position) {
            look(position);
            // Who can castle can also move the king beside it, so castling needs no look.
            for (int square = 0; square < board.size; square++) {
                if (contains(own, square) && targets(position, square) != 0) {
                    return true;
                }
            }
            return false;
        }

        int numberOfMoves(Position position) {
            look(position);
            int number = Long.bitCount(castlings(position));
            for (int square = 0; square < board.size; square++) {
                if (contains(own, square)) {
                    long targets = targets(position, square);
                    number += Long.bitCount(targets);
                    if (position.kindOn(square) == PAWN) {
                        number += 3 * Long.bitCount(targets & board.edges);
                    }
                }
            }
            return number;
        }

        /** Fills the row with the moves in their order; returns their number. */
        int generate(Position position, int[] row) {
            look(position);
            int made = 0;
            for (int square = 0; square < board.size; square++) {
                if (contains(own, square)) {
                    long targets = targets(position, square);
                    if (square == king) {
                        targets |= castlings(position);
                    }
                    boolean isPawn = position.kindOn(square) == PAWN;
                    made = addMoves(row, made, square, targets, isPawn ? targets & board.edges : 0);
                }
            }
            return made;
        }

        private int addMoves(int[] row, int made, int from, long targets, long changing) {
            int number = made;
            long left = targets;
            for (int i = 0; i < MOST_SQUARES && left != 0; i++) {
                int to = lowest(left);
                left &= left - 1;
                boolean isChanging = contains(changing, to);
                int last = isChanging ? KNIGHT : QUEEN;
                for (int kind = QUEEN; kind <= last && number >= 0 && number < row.length; kind++) {
                    row[number] = moveOf(from, to, isChanging ? kind : 0);
                    number++;
                }
            }
            return number;
        }

        /** The squares to which the piece on a square can move, but for castling. */
        private long targets(Position position, int from) {
            int kind = position.kindOn(from);
            boolean isPawn = kind == PAWN;
            long aims = isPawn ? pawnAims(position, from) : board.reach(kind, from, occupied) & ~own;
            boolean canPass = isPawn && position.passing != NONE;
            if (!isInCheck && !canPass && kind != KING && !contains(shields, from)) {
                return aims;
            }
            long safe = 0;
            long left = aims;
            for (int i = 0; i < MOST_SQUARES && left != 0; i++) {
                int to = lowest(left);
                left &= left - 1;
                long gone = 1L << to;
                if (canPass && to == position.passing) {
                    gone |= 1L << (position.isWhite ? to - board.files : to + board.files);
                }
                long then = occupied & ~gone & ~(1L << from) | 1L << to;
                int place = kind == KING ? to : king;
                if ((position.attackers(place, !position.isWhite, then) & ~gone) == 0) {
                    safe |= 1L << to;
                }
            }
            return safe;
        }

        private long pawnAims(Position position, int from) {
            boolean isWhite = position.isWhite;
            int forward = isWhite ? board.files : -board.files;
            long aims = 0;
            int next = from + forward;
            if (board.has(next) && !contains(occupied, next)) {
                aims |= 1L << next;
                boolean isOnSecond = board.rankAt(from) == (isWhite ? 1 : board.ranks - 2);
                if (isOnSecond && board.ranks >= 6 && !contains(occupied, next + forward)) {
                    aims |= 1L << (next + forward);
                }
            }
            long prey = position.ofSide(!isWhite);
            if (position.passing != NONE) {
                prey |= 1L << position.passing;
            }
            return aims | board.pawnAimsOf(from, isWhite) & prey;
        }

        /** The squares to which the king can castle; a right tells that king and rook stand at home. */
        private long castlings(Position position) {
            int held = position.isWhite ? position.rights & WHITE_RIGHTS : position.rights >>> 2;
            if (held == 0 || isInCheck) {
                return 0;
            }
            int home = position.isWhite ? 0 : board.size - MOST_SIDE;
            boolean isShort = (held & 1) != 0 && (occupied >>> home & 0x60) == 0
                    && position.attackers(home + 5, !position.isWhite, occupied) == 0
                    && position.attackers(home + 6, !position.isWhite, occupied) == 0;
            boolean isLong = (held & 2) != 0 && (occupied >>> home & 0x0E) == 0
                    && position.attackers(home + 3, !position.isWhite, occupied) == 0
                    && position.attackers(home + 2, !position.isWhite, occupied) == 0;
            return (isShort ? 1L << (home + 6) : 0) | (isLong ? 1L << (home + 2) : 0);
        }
    }

    /** The moves of one position by their numbers, with their letters. */
    private static final class MoveList {
        private static final long SHORT = 'O' << 16 | '-' << 8 | 'O';
        private static final long LONG = SHORT << 16 | '-' << 8 | 'O';

        private final Board board;
        private final Rules rules;
        private final Position now;
        private final Position behind;
        private final int[] codes = new int[MOST_MOVES];
        private final long[] words = new long[MOST_MOVES];
        private boolean isSpelled = false;
        private int size = 0;

        MoveList(Board board, Rules rules) {
            this.board = board;
            this.rules = rules;
            now = new Position(board);
            behind = new Position(board);
        }

        void look(Position position) {
            now.copy(position);
            size = rules.generate(now, codes);
            isSpelled = false;
        }

        int codeAt(int number) {
            return number >= 0 && number < size && number < codes.length ? codes[number] : 0;
        }

        int numberOfCode(int code) {
            for (int i = 0; i < size && i < codes.length; i++) {
                if (codes[i] == code) {
                    return i;
                }
            }
            return NONE;
        }

        /** The number of the move with these letters (without + and #), or NONE. */
        int numberOfWord(long word) {
            if (!isSpelled) {
                for (int i = 0; i < size && i < words.length; i++) {
                    words[i] = plainWord(i);
                }
                isSpelled = true;
            }
            for (int i = 0; i < size && i < words.length; i++) {
                if (words[i] == word) {
                    return i;
                }
            }
            return NONE;
        }

        /** The letters of a move, the last one in the lowest byte. */
        long wordOf(int number) {
            long word = plainWord(number);
            int mark = markOf(number);
            return mark == 0 ? word : word << 8 | mark;
        }

        /** The letters of a move without + and #. */
        long plainWord(int number) {
            int code = codeAt(number);
            int from = fromOf(code);
            int to = toOf(code);
            int kind = now.kindOn(from);
            if (kind == KING && to - from == 2) {
                return SHORT;
            }
            if (kind == KING && from - to == 2) {
                return LONG;
            }
            boolean takes = now.kindOn(to) != 0 || kind == PAWN && to == now.passing;
            long word = 0;
            if (kind == PAWN) {
                word = takes ? fileName(from) : 0;
            } else if (kind < PIECES.length()) {
                word = withOrigin(PIECES.charAt(kind), code, kind);
            }
            if (takes) {
                word = word << 8 | 'x';
            }
            word = word << 16 | fileName(to) << 8 | rankName(to);
            int becomes = becomesOf(code);
            if (becomes > 0 && becomes < PIECES.length()) {
                word = word << 16 | '=' << 8 | PIECES.charAt(becomes);
            }
            return word;
        }

        /** Puts behind a kind as much of the square from which a move goes as tells it from the others of its kind. */
        private long withOrigin(long word, int code, int kind) {
            int from = fromOf(code);
            boolean hasOther = false;
            boolean isFileShared = false;
            boolean isRankShared = false;
            for (int i = 0; i < size && i < codes.length; i++) {
                int start = fromOf(codes[i]);
                if (toOf(codes[i]) == toOf(code) && start != from && now.kindOn(start) == kind) {
                    hasOther = true;
                    isFileShared |= board.fileAt(start) == board.fileAt(from);
                    isRankShared |= board.rankAt(start) == board.rankAt(from);
                }
            }
            boolean isFileTold = hasOther && (!isFileShared || isRankShared);
            boolean isRankTold = hasOther && isFileShared;
            long told = isFileTold ? word << 8 | fileName(from) : word;
            return isRankTold ? told << 8 | rankName(from) : told;
        }

        private long fileName(int square) {
            return 'a' + board.fileAt(square);
        }

        private long rankName(int square) {
            return '1' + board.rankAt(square);
        }

        /** The sign behind the letters of a move: # for mate, + for check, 0 for neither. */
        int markOf(int number) {
            behind.copy(now);
            behind.apply(codeAt(number));
            if (!behind.isInCheck()) {
                return 0;
            }
            return rules.hasMove(behind) ? '+' : '#';
        }
    }

    /** Reads texts of moves. */
    private static final class MovesReader {
        private static final int BLANK = 0, OPENING = 1, CLOSING = 2, REMARK = 3, NUMBER = 4, RESULT = 5, WORD = 6;
        /** The line of the text, and four variations each in the one before. */
        private static final int LEVELS = 5;

        private final MoveList list;
        private final Position at;
        /** Of each open line the position in which its next move stands, and the one ahead of its latest move. */
        private final long[] nexts = new long[LEVELS * SAVED];
        private final long[] lasts = new long[LEVELS * SAVED];
        private final int[] lengths = new int[LEVELS];
        private final int[] line = new int[MOST_MADE];
        private int level = 0;
        private int room = 0;
        private int movesAside = 0;
        private boolean isAfterNumber = false;
        private boolean isAfterResult = false;

        MovesReader(Board board, MoveList list) {
            this.list = list;
            at = new Position(board);
        }

        /** Reads a text from a position with room for so many moves; returns the place of its fault, or NONE. */
        int read(StringBuilder text, Position first, int newRoom) {
            first.save(nexts, 0);
            lengths[0] = 0;
            level = 0;
            room = Math.min(newRoom, line.length);
            movesAside = 0;
            isAfterNumber = false;
            isAfterResult = false;
            int length = text.length();
            int place = 0;
            // Each token has a byte at least.
            for (int i = 0; i < length && place < length; i++) {
                int end = endOfToken(text, place);
                int token = tokenAt(text, place, end);
                boolean stands = token == WORD ? takesMove(text, place, end) : takes(token);
                if (!stands) {
                    return place;
                }
                place = end;
            }
            boolean isWhole = place == length && level == 0 && !isAfterNumber;
            return isWhole ? NONE : length;
        }

        int lineLength() {
            return lengths[0];
        }

        int lineMove(int index) {
            return index >= 0 && index < line.length ? line[index] : 0;
        }

        /** Where the token ends; of a note that is not closed one byte behind the text. */
        private static int endOfToken(StringBuilder text, int place) {
            int length = text.length();
            if (place < 0 || place >= length) {
                return length;
            }
            char first = text.charAt(place);
            if (first == '{') {
                for (int i = place + 1; i < length; i++) {
                    if (text.charAt(i) == '}') {
                        return i + 1;
                    }
                }
                return length + 1;
            }
            if (isBorder(first)) {
                return place + 1;
            }
            int end = place + 1;
            while (end < length && !isBorder(text.charAt(end))) {
                end++;
            }
            return end;
        }

        private static boolean isBorder(char sign) {
            return sign == ' ' || sign == '(' || sign == ')' || sign == '{' || sign == '}';
        }

        /** What a token is, NONE if it can stand nowhere; a word may be a move. */
        private static int tokenAt(StringBuilder text, int place, int end) {
            if (place < 0 || place >= text.length()) {
                return NONE;
            }
            switch (text.charAt(place)) {
                case ' ':
                    return BLANK;
                case '(':
                    return OPENING;
                case ')':
                    return CLOSING;
                case '{':
                    return REMARK;
                case '}':
                    return NONE;
                default:
                    if (isNumber(text, place, end)) {
                        return NUMBER;
                    }
                    return isResult(text, place, end) ? RESULT : WORD;
            }
        }

        private static boolean isNumber(StringBuilder text, int place, int end) {
            int digits = 0;
            int dots = 0;
            for (int i = place; i < end && i < text.length(); i++) {
                char sign = text.charAt(i);
                if (sign == '.') {
                    dots++;
                } else if (sign >= '0' && sign <= '9' && dots == 0) {
                    digits++;
                } else {
                    return false;
                }
            }
            return digits >= 1 && digits <= 3 && (dots == 1 || dots == 3);
        }

        private static boolean isResult(StringBuilder text, int place, int end) {
            return isJust(text, place, end, "1-0") || isJust(text, place, end, "0-1")
                    || isJust(text, place, end, "1/2-1/2") || isJust(text, place, end, "*");
        }

        private static boolean isJust(StringBuilder text, int place, int end, String word) {
            if (place < 0 || end > text.length() || end - place != word.length()) {
                return false;
            }
            for (int i = 0; i < word.length() && place + i < text.length(); i++) {
                if (text.charAt(place + i) != word.charAt(i)) {
                    return false;
                }
            }
            return true;
        }

        /** Takes a token that is no move, if it can stand here. */
        private boolean takes(int token) {
            if (token == BLANK) {
                return true;
            }
            if (isAfterNumber || isAfterResult || level < 0 || level >= LEVELS) {
                return false;
            }
            switch (token) {
                case NUMBER:
                    isAfterNumber = true;
                    return true;
                case RESULT:
                    isAfterResult = level == 0;
                    return isAfterResult;
                case REMARK:
                    return lengths[level] > 0;
                case OPENING:
                    return opens();
                case CLOSING:
                    return closes();
                default:
                    return false;
            }
        }

        private boolean opens() {
            if (level < 0 || level + 1 >= LEVELS || lengths[level] == 0) {
                return false;
            }
            at.load(lasts, level);
            level++;
            at.save(nexts, level);
            lengths[level] = 0;
            return true;
        }

        private boolean closes() {
            if (level <= 0 || level >= LEVELS || lengths[level] == 0) {
                return false;
            }
            level--;
            return true;
        }

        private boolean takesMove(StringBuilder text, int place, int end) {
            boolean isFull = level == 0 && lengths[0] >= room;
            if (isAfterResult || isFull || level < 0 || level >= LEVELS || end > text.length() || end <= place) {
                return false;
            }
            at.load(nexts, level);
            list.look(at);
            char mark = text.charAt(end - 1);
            boolean isMarked = mark == '+' || mark == '#';
            int number = list.numberOfWord(packed(text, place, isMarked ? end - 1 : end));
            if (number == NONE || isMarked && list.markOf(number) != mark) {
                return false;
            }
            at.save(lasts, level);
            at.apply(list.codeAt(number));
            at.save(nexts, level);
            if (level > 0) {
                movesAside++;
            } else if (lengths[0] < line.length) {
                line[lengths[0]] = list.codeAt(number);
            }
            lengths[level]++;
            isAfterNumber = false;
            return true;
        }

        /** The letters as a number, the last one in the lowest byte; 0 if there are more than any move has. */
        private static long packed(StringBuilder text, int place, int end) {
            if (end - place > 7) {
                return 0;
            }
            long word = 0;
            for (int i = place; i < end && i < text.length(); i++) {
                word = word << 8 | text.charAt(i);
            }
            return word;
        }
    }

    /** Reads and writes papers of positions. */
    private static final class Papers {
        private final Board board;
        private final StringBuilder again = new StringBuilder();
        private int place = 0;

        Papers(Board board) {
            this.board = board;
        }

        void write(Position position, StringBuilder paper) {
            paper.setLength(0);
            for (int rank = board.ranks - 1; rank >= 0; rank--) {
                writeRank(position, rank, paper);
                if (rank > 0) {
                    paper.append('/');
                }
            }
            paper.append(position.isWhite ? " w " : " b ");
            if (position.rights == 0) {
                paper.append('-');
            }
            for (int right = 0; right < RIGHTS.length(); right++) {
                if ((position.rights >>> right & 1) != 0) {
                    paper.append(RIGHTS.charAt(right));
                }
            }
            paper.append(' ');
            if (position.passing == NONE) {
                paper.append('-');
            } else {
                paper.append((char) ('a' + board.fileAt(position.passing)));
                paper.append((char) ('1' + board.rankAt(position.passing)));
            }
        }

        private void writeRank(Position position, int rank, StringBuilder paper) {
            int empty = 0;
            for (int file = 0; file < board.files; file++) {
                int piece = position.pieceOn(rank * board.files + file);
                if (piece == 0) {
                    empty++;
                } else {
                    if (empty > 0) {
                        paper.append(empty);
                    }
                    empty = 0;
                    if (piece < PIECES.length()) {
                        paper.append(PIECES.charAt(piece));
                    }
                }
            }
            if (empty > 0) {
                paper.append(empty);
            }
        }

        /**
         * Reads the paper of a proper position; returns whether the text is one. The signs are taken as they come:
         * a text is a paper just if the position that was read is written like it.
         */
        boolean reads(StringBuilder text, Position position) {
            position.clear();
            place = 0;
            readSquares(text, position);
            position.isWhite = next(text) == 'w';
            next(text);
            readRights(text, position);
            next(text);
            readPassing(text, position);
            write(position, again);
            return isSame(text, again) && position.isLawful() && isPassingSound(position);
        }

        /** The next sign of the text, 0 behind its end. */
        private char next(StringBuilder text) {
            char sign = 0;
            if (place >= 0 && place < text.length()) {
                sign = text.charAt(place);
            }
            place++;
            return sign;
        }

        private void readSquares(StringBuilder text, Position position) {
            for (int rank = board.ranks - 1; rank >= 0; rank--) {
                for (int file = 0; file < board.files; file++) {
                    char sign = next(text);
                    int piece = PIECES.indexOf(sign);
                    if (piece > 0) {
                        position.place(rank * board.files + file, piece);
                    } else if (sign > '1' && sign <= '8') {
                        file += sign - '1';
                    }
                }
                next(text);
            }
        }

        private void readRights(StringBuilder text, Position position) {
            char sign = next(text);
            if (sign == '-') {
                return;
            }
            for (int i = 0; i < RIGHTS.length() && RIGHTS.indexOf(sign) >= 0; i++) {
                position.rights |= 1 << RIGHTS.indexOf(sign);
                sign = next(text);
            }
            place--;
        }

        private void readPassing(StringBuilder text, Position position) {
            int file = next(text) - 'a';
            int rank = next(text) - '1';
            if (file >= 0 && file < board.files && rank >= 0 && rank < board.ranks) {
                position.passing = rank * board.files + file;
            }
        }

        private static boolean isSame(StringBuilder one, StringBuilder other) {
            if (one.length() != other.length()) {
                return false;
            }
            for (int i = 0; i < one.length() && i < other.length(); i++) {
                if (one.charAt(i) != other.charAt(i)) {
                    return false;
                }
            }
            return true;
        }

        /** Whether the passing square is NONE or can be the one behind a first step. */
        private boolean isPassingSound(Position position) {
            int square = position.passing;
            if (square == NONE) {
                return true;
            }
            boolean isStepWhite = !position.isWhite;
            if (board.ranks < 6 || board.rankAt(square) != (isStepWhite ? 2 : board.ranks - 3)) {
                return false;
            }
            int forward = isStepWhite ? board.files : -board.files;
            long rivals = position.ofKind(PAWN) & position.ofSide(position.isWhite);
            return position.pieceOn(square) == 0
                    && position.pieceOn(square - forward) == 0
                    && position.pieceOn(square + forward) == (isStepWhite ? PAWN : PAWN + DARK)
                    && (board.besidesOf(square + forward) & rivals) != 0;
        }
    }

    /** A first position, the moves made from it and the positions behind them. */
    private static final class Game {
        private final long[] places;
        private final int[] moves;
        /** Whether no position ahead, of this game and of those before it on its shelf, is the same. */
        private final boolean[] fresh;
        private int length = 0;
        private int result = 0;
        private int year = 0;
        private int strength = 0;
        private int box = 0;
        private int due = 0;

        Game(int room) {
            int size = Math.max(room, 0);
            places = new long[(size + 1) * SAVED];
            moves = new int[size];
            fresh = new boolean[size + 1];
        }

        void begin(Position first) {
            length = 0;
            first.save(places, 0);
        }

        void addMove(int code, Position behind) {
            if (length >= 0 && length < moves.length) {
                moves[length] = code;
                length++;
                behind.save(places, length);
            }
        }

        Game copyWith(int newResult, int newYear, int newStrength) {
            Game copy = new Game(length);
            for (int i = 0; i < copy.places.length && i < places.length; i++) {
                copy.places[i] = places[i];
            }
            for (int i = 0; i < copy.moves.length && i < moves.length; i++) {
                copy.moves[i] = moves[i];
            }
            copy.length = length;
            copy.result = newResult;
            copy.year = newYear;
            copy.strength = newStrength;
            return copy;
        }

        int moveAt(int index) {
            return index >= 0 && index < length && index < moves.length ? moves[index] : 0;
        }

        boolean passesThrough(Position position) {
            return indexFrom(position, 0) != NONE;
        }

        /** Where, not ahead of an index, the position stands first, or NONE. */
        int indexFrom(Position position, int start) {
            for (int i = start; i <= length; i++) {
                if (position.isSavedAt(places, i)) {
                    return i;
                }
            }
            return NONE;
        }

        int timesOf(Position position) {
            int times = 0;
            for (int i = 0; i <= length; i++) {
                if (position.isSavedAt(places, i)) {
                    times++;
                }
            }
            return times;
        }

        /** How many moves up to now, one behind the other, were not of a pawn and took nothing. */
        int calmMoves() {
            int calm = 0;
            for (int i = length - 1; i >= 0; i--) {
                boolean isOfPawn = contains(planeAt(i, 2) & planeAt(i, 3), fromOf(moveAt(i)));
                if (isOfPawn || piecesAt(i) != piecesAt(i + 1)) {
                    break;
                }
                calm++;
            }
            return calm;
        }

        private int piecesAt(int index) {
            return Long.bitCount(planeAt(index, 1) | planeAt(index, 2) | planeAt(index, 3));
        }

        private long planeAt(int index, int plane) {
            int at = index * SAVED + plane;
            return at >= 0 && at < places.length ? places[at] : 0;
        }

        boolean isSameAt(int index, Game other, int otherIndex) {
            for (int i = 0; i < SAVED; i++) {
                if (planeAt(index, i) != other.planeAt(otherIndex, i)) {
                    return false;
                }
            }
            return true;
        }

        /** Whether the other game has the same first position and the same moves. */
        boolean isLike(Game other) {
            if (length != other.length || !isSameAt(0, other, 0)) {
                return false;
            }
            for (int i = 0; i < length; i++) {
                if (moveAt(i) != other.moveAt(i)) {
                    return false;
                }
            }
            return true;
        }

        boolean isFreshAt(int index) {
            return index >= 0 && index < fresh.length && fresh[index];
        }

        void setFresh(int index, boolean isFresh) {
            if (index >= 0 && index < fresh.length) {
                fresh[index] = isFresh;
            }
        }

        /** A position that no game before has is also the first of its like here, so the marks tell it. */
        int firstFresh() {
            for (int i = 0; i <= length; i++) {
                if (isFreshAt(i)) {
                    return i;
                }
            }
            return NONE;
        }
    }

    /** A shelf of games. */
    private static final class Shelf {
        private final ArrayList<Game> games = new ArrayList<Game>();

        int size() {
            return games.size();
        }

        void clear() {
            games.clear();
        }

        /** The game with a number, or null. */
        Game gameAt(int number) {
            return number >= 0 && number < games.size() ? games.get(number) : null;
        }

        /** Puts a game behind the others and marks what is fresh in it. */
        void add(Game game) {
            for (int i = 0; i <= game.length; i++) {
                game.setFresh(i, !isKnown(game, i));
            }
            games.add(game);
        }

        private boolean isKnown(Game game, int index) {
            for (int i = 0; i < index; i++) {
                if (game.isSameAt(index, game, i)) {
                    return true;
                }
            }
            for (int number = 0; number < games.size(); number++) {
                Game other = gameAt(number);
                for (int i = 0; other != null && i <= other.length; i++) {
                    if (game.isSameAt(index, other, i)) {
                        return true;
                    }
                }
            }
            return false;
        }

        boolean hasLike(Game game) {
            for (int number = 0; number < games.size(); number++) {
                Game other = gameAt(number);
                if (other != null && other.isLike(game)) {
                    return true;
                }
            }
            return false;
        }

        int differentPositions() {
            int different = 0;
            for (int number = 0; number < games.size(); number++) {
                Game game = gameAt(number);
                for (int i = 0; game != null && i <= game.length; i++) {
                    different += game.isFreshAt(i) ? 1 : 0;
                }
            }
            return different;
        }

        int positionsFitting(int[] pattern, Position scratch) {
            int fitting = 0;
            for (int number = 0; number < games.size(); number++) {
                Game game = gameAt(number);
                for (int i = 0; game != null && i <= game.length; i++) {
                    scratch.load(game.places, i);
                    fitting += game.isFreshAt(i) && scratch.fits(pattern) ? 1 : 0;
                }
            }
            return fitting;
        }

        /** How many games with a result (NONE for any) pass through a position. */
        int passing(Position position, int result) {
            int found = 0;
            for (int number = 0; number < games.size(); number++) {
                Game game = gameAt(number);
                if (game != null && (result == NONE || game.result == result) && game.passesThrough(position)) {
                    found++;
                }
            }
            return found;
        }

        int passingInYears(Position position, int from, int to) {
            int found = 0;
            for (int number = 0; number < games.size(); number++) {
                Game game = gameAt(number);
                if (game != null && game.year >= from && game.year <= to && game.passesThrough(position)) {
                    found++;
                }
            }
            return found;
        }

        int strengthsPassing(Position position) {
            int sum = 0;
            for (int number = 0; number < games.size(); number++) {
                Game game = gameAt(number);
                if (game != null && game.passesThrough(position)) {
                    sum += game.strength;
                }
            }
            return sum;
        }

        /** Counts the games through a position by replaying them. */
        int replaysPassing(Position position, Position scratch) {
            int found = 0;
            for (int number = 0; number < games.size(); number++) {
                Game game = gameAt(number);
                if (game == null) {
                    continue;
                }
                scratch.load(game.places, 0);
                boolean passes = scratch.isLike(position);
                for (int i = 0; i < game.length; i++) {
                    scratch.apply(game.moveAt(i));
                    passes |= scratch.isLike(position);
                }
                found += passes ? 1 : 0;
            }
            return found;
        }

        int movesOfAll() {
            int sum = 0;
            for (int number = 0; number < games.size(); number++) {
                Game game = gameAt(number);
                sum += game == null ? 0 : game.length;
            }
            return sum;
        }

        /** The number of the game that is asked in the drill, NONE on an empty shelf. */
        int numberDue() {
            int best = NONE;
            Game first = null;
            for (int number = 0; number < games.size(); number++) {
                Game game = gameAt(number);
                if (game == null) {
                    continue;
                }
                boolean isSooner = first == null || game.due < first.due
                        || game.due == first.due && game.box < first.box;
                if (isSooner) {
                    best = number;
                    first = game;
                }
            }
            return best;
        }
    }

    /** The continuations of a position on a shelf. */
    private static final class Continuations {
        private final MoveList list;
        /** By the numbers of the moves: how many games made them, the latest of these, their letters. */
        private final int[] games = new int[MOST_MOVES];
        private final int[] latest = new int[MOST_MOVES];
        private final long[] words = new long[MOST_MOVES];

        Continuations(MoveList list) {
            this.list = list;
        }

        void gather(Shelf shelf, Position position) {
            list.look(position);
            Arrays.fill(games, 0);
            Arrays.fill(latest, NONE);
            for (int number = 0; number < shelf.size(); number++) {
                Game game = shelf.gameAt(number);
                for (int i = 0; game != null && i < game.length; i++) {
                    if (position.isSavedAt(game.places, i)) {
                        note(list.numberOfCode(game.moveAt(i)), number);
                    }
                }
            }
            for (int move = 0; move < list.size && move < words.length; move++) {
                words[move] = gamesWith(move) > 0 ? aligned(list.wordOf(move)) : 0;
            }
        }

        private void note(int move, int game) {
            if (move >= 0 && move < games.length && move < latest.length && latest[move] != game) {
                latest[move] = game;
                games[move]++;
            }
        }

        /** Letters from the highest byte on, so that numbers stand in the order of the texts. */
        private static long aligned(long word) {
            long shifted = word;
            for (int i = 0; i < 8 && shifted >>> 56 == 0; i++) {
                shifted <<= 8;
            }
            return shifted;
        }

        int gamesWith(int move) {
            return move >= 0 && move < games.length ? games[move] : 0;
        }

        private long letters(int move) {
            return move >= 0 && move < words.length ? words[move] : 0;
        }

        int number() {
            int found = 0;
            for (int move = 0; move < list.size; move++) {
                found += gamesWith(move) > 0 ? 1 : 0;
            }
            return found;
        }

        /** The move of the continuation with an index, or NONE. */
        int moveAt(int index) {
            for (int move = 0; move < list.size; move++) {
                if (gamesWith(move) > 0 && before(move) == index) {
                    return move;
                }
            }
            return NONE;
        }

        /** How many continuations stand before that of a move. */
        private int before(int move) {
            int before = 0;
            for (int other = 0; other < list.size; other++) {
                before += gamesWith(other) > 0 && letters(other) < letters(move) ? 1 : 0;
            }
            return before;
        }

        /** The continuation with the most games, of several the first one; NONE without any. */
        int mainMove() {
            int main = NONE;
            for (int move = 0; move < list.size; move++) {
                int more = gamesWith(move) - gamesWith(main);
                if (more > 0 || more == 0 && gamesWith(move) > 0 && letters(move) < letters(main)) {
                    main = move;
                }
            }
            return main;
        }
    }

    /** Counts rows of moves and looks for forced mates. */
    private static final class Search {
        private final Rules rules;
        private final int[] firstMoves = new int[MOST_MOVES];
        private final int[] secondMoves = new int[MOST_MOVES];
        private final int[] thirdMoves = new int[MOST_MOVES];
        private final Position first;
        private final Position second;
        private final Position third;
        private int mateLength = NONE;
        private int keys = 0;
        private int earliestKey = NONE;

        Search(Board board, Rules rules) {
            this.rules = rules;
            first = new Position(board);
            second = new Position(board);
            third = new Position(board);
        }

        int rowsOfMoves(Position position, int depth) {
            if (depth <= 1) {
                return rules.numberOfMoves(position);
            }
            return depth == 2 ? rowsOfTwo(position) : rowsOfThree(position);
        }

        private int rowsOfThree(Position position) {
            int rows = 0;
            int number = rules.generate(position, firstMoves);
            for (int i = 0; i < number && i < firstMoves.length; i++) {
                first.copy(position);
                first.apply(firstMoves[i]);
                rows += rowsOfTwo(first);
            }
            return rows;
        }

        private int rowsOfTwo(Position position) {
            int rows = 0;
            int number = rules.generate(position, secondMoves);
            for (int i = 0; i < number && i < secondMoves.length; i++) {
                second.copy(position);
                second.apply(secondMoves[i]);
                rows += rules.numberOfMoves(second);
            }
            return rows;
        }

        /** Finds the length of the forced mate and its keys. */
        void findKeys(Position position) {
            mateLength = NONE;
            keys = 0;
            earliestKey = NONE;
            int number = rules.generate(position, firstMoves);
            for (int length = 1; length <= 3 && keys == 0; length += 2) {
                for (int i = 0; i < number && i < firstMoves.length; i++) {
                    first.copy(position);
                    first.apply(firstMoves[i]);
                    boolean isKey = length == 1 ? isMate(first) : isLostInTwo(first);
                    if (isKey) {
                        mateLength = length;
                        earliestKey = keys == 0 ? i : earliestKey;
                        keys++;
                    }
                }
            }
        }

        private boolean isMate(Position position) {
            return position.isInCheck() && !rules.hasMove(position);
        }

        /** Whether the side to move has moves and is mated by the next move of the other side behind each of them. */
        private boolean isLostInTwo(Position position) {
            int number = rules.generate(position, secondMoves);
            for (int i = 0; i < number && i < secondMoves.length; i++) {
                second.copy(position);
                second.apply(secondMoves[i]);
                if (!canMate(second)) {
                    return false;
                }
            }
            return number > 0;
        }

        private boolean canMate(Position position) {
            int number = rules.generate(position, thirdMoves);
            for (int i = 0; i < number && i < thirdMoves.length; i++) {
                third.copy(position);
                third.apply(thirdMoves[i]);
                if (third.isInCheck() && !rules.hasMove(third)) {
                    return true;
                }
            }
            return false;
        }
    }

    /** The endings of two kings and one white piece, solved backward from the mates. */
    private static final class Endings {
        private static final int MOST_PLACES = 25;
        private static final int CUBE = MOST_PLACES * MOST_PLACES * MOST_PLACES;
        private static final int TABLE = 2 * CUBE;
        /** The value of what is no position of the ending. */
        private static final int OUT = -2;
        /** More moves than a king has: those of Black never all lead to won positions. */
        private static final int ESCAPE = 100;

        private final Board board;
        private final boolean[] isSolved = new boolean[KNIGHT + 1];
        private final int[] wins = new int[KNIGHT + 1];
        private final int[] greatest = new int[KNIGHT + 1];
        /** The values, by the kind and the position; empty before the first ending is solved. */
        private int[] values = new int[0];
        /** The positions that are won, in the order of their values. */
        private int[] queue = new int[0];
        /** By the positions with Black to move: how many of its moves do not lead to won positions. */
        private int[] open = new int[0];
        private int queued = 0;

        Endings(Board board) {
            this.board = board;
        }

        void forget() {
            Arrays.fill(wins, 0);
            Arrays.fill(greatest, NONE);
            for (int kind = 0; kind < isSolved.length; kind++) {
                isSolved[kind] = false;
            }
        }

        boolean isWorkedOut(int kind) {
            return kind >= QUEEN && kind < isSolved.length && isSolved[kind];
        }

        int winsOf(int kind) {
            return isWorkedOut(kind) && kind < wins.length ? wins[kind] : 0;
        }

        int greatestOf(int kind) {
            return isWorkedOut(kind) && kind < greatest.length ? greatest[kind] : NONE;
        }

        /** The kind of the ending to which a position belongs, or NONE. */
        int kindOf(Position position) {
            long others = position.occupied() & ~position.ofKind(KING);
            boolean isSmall = Long.bitCount(others) == 1 && (others & position.ofSide(true)) != 0;
            if (!isSmall || position.rights != 0 || position.passing != NONE || !position.isLawful()) {
                return NONE;
            }
            int kind = position.kindOn(lowest(others));
            return kind >= QUEEN && kind <= KNIGHT ? kind : NONE;
        }

        int valueOf(int kind, Position position) {
            long others = position.occupied() & ~position.ofKind(KING);
            if (others == 0) {
                return NONE;
            }
            int value = valueAt(kind, indexOf(position.isWhite, position.kingOf(true),
                    position.kingOf(false), lowest(others)));
            return value < 0 ? NONE : value;
        }

        private static int indexOf(boolean isWhite, int king, int rival, int piece) {
            return (isWhite ? CUBE : 0) + (king * MOST_PLACES + rival) * MOST_PLACES + piece;
        }

        private int valueAt(int kind, int index) {
            int at = (kind - QUEEN) * TABLE + index;
            return index >= 0 && index < TABLE && at >= 0 && at < values.length ? values[at] : OUT;
        }

        private void setValue(int kind, int index, int value) {
            int at = (kind - QUEEN) * TABLE + index;
            if (index >= 0 && index < TABLE && at >= 0 && at < values.length) {
                values[at] = value;
            }
        }

        void workOut(int kind) {
            if (isWorkedOut(kind) || kind < QUEEN || kind > KNIGHT || board.size > MOST_PLACES) {
                return;
            }
            if (values.length == 0) {
                values = new int[4 * TABLE];
                queue = new int[TABLE];
                open = new int[CUBE];
            }
            queued = 0;
            forEachPlace(kind, true);
            forEachPlace(kind, false);
            for (int i = 0; i < queued && i < queue.length; i++) {
                stepBack(kind, queue[i]);
            }
            isSolved[kind] = true;
            wins[kind] = queued;
            int last = queued - 1;
            greatest[kind] = last >= 0 && last < queue.length ? valueAt(kind, queue[last]) : NONE;
        }

        /** Marks what is of the ending, or, once that is done, counts the moves of Black and finds the mates. */
        private void forEachPlace(int kind, boolean isMarking) {
            int size = Math.min(board.size, MOST_PLACES);
            for (int king = 0; king < size; king++) {
                for (int rival = 0; rival < size; rival++) {
                    for (int piece = 0; piece < size; piece++) {
                        if (isMarking) {
                            mark(kind, king, rival, piece);
                        } else {
                            countMovesOfBlack(kind, king, rival, piece);
                        }
                    }
                }
            }
        }

        private void mark(int kind, int king, int rival, int piece) {
            boolean isApart = king != rival && king != piece && rival != piece
                    && !contains(board.reach(KING, king, 0), rival);
            boolean isCheck = isApart && isChecking(kind, king, rival, piece);
            setValue(kind, indexOf(false, king, rival, piece), isApart ? NONE : OUT);
            setValue(kind, indexOf(true, king, rival, piece), isApart && !isCheck ? NONE : OUT);
        }

        private boolean isChecking(int kind, int king, int rival, int piece) {
            return contains(board.reach(kind, piece, 1L << king | 1L << rival), rival);
        }

        private void countMovesOfBlack(int kind, int king, int rival, int piece) {
            int index = indexOf(false, king, rival, piece);
            if (valueAt(kind, index) == OUT || index < 0 || index >= open.length) {
                return;
            }
            long steps = board.reach(KING, rival, 0);
            int moves = 0;
            for (int to = 0; to < board.size; to++) {
                if (contains(steps, to) && valueAt(kind, indexOf(true, king, to, piece)) != OUT) {
                    moves++;
                }
            }
            if (contains(steps, piece) && !contains(board.reach(KING, king, 0), piece)) {
                moves = ESCAPE;
            }
            open[index] = moves;
            if (moves == 0 && isChecking(kind, king, rival, piece)) {
                win(kind, index, 0);
            }
        }

        private void win(int kind, int index, int value) {
            if (queued >= 0 && queued < queue.length) {
                setValue(kind, index, value);
                queue[queued] = index;
                queued++;
            }
        }

        /** Looks at the positions from which a won one is reached. */
        private void stepBack(int kind, int index) {
            boolean isWhite = index >= CUBE;
            int places = isWhite ? index - CUBE : index;
            int piece = places % MOST_PLACES;
            int rival = places / MOST_PLACES % MOST_PLACES;
            int king = places / MOST_PLACES / MOST_PLACES;
            int value = valueAt(kind, index) + 1;
            long kingSteps = board.reach(KING, king, 0);
            long rivalSteps = board.reach(KING, rival, 0);
            long pieceSteps = board.reach(kind, piece, 1L << king | 1L << rival);
            for (int from = 0; from < board.size; from++) {
                if (isWhite && contains(rivalSteps, from)) {
                    loseMove(kind, indexOf(false, king, from, piece), value);
                }
                if (!isWhite && contains(kingSteps, from)) {
                    reachWin(kind, indexOf(true, from, rival, piece), value);
                }
                if (!isWhite && contains(pieceSteps, from)) {
                    reachWin(kind, indexOf(true, king, rival, from), value);
                }
            }
        }

        private void reachWin(int kind, int index, int value) {
            if (valueAt(kind, index) == NONE) {
                win(kind, index, value);
            }
        }

        private void loseMove(int kind, int index, int value) {
            if (valueAt(kind, index) != NONE || index < 0 || index >= open.length) {
                return;
            }
            open[index]--;
            if (open[index] == 0) {
                win(kind, index, value);
            }
        }
    }
}
