import java.util.Arrays;
import java.util.Set;
import java.util.TreeSet;

/** The bounds of section 5 and of promises 3 and 24 to 29: the moves of the game, its states, rows of moves. */
public final class BoundsGameTest {
    private static final Class<IllegalArgumentException> ARGUMENT = IllegalArgumentException.class;
    private static final Class<IllegalStateException> STATE = IllegalStateException.class;
    private static final int GOING = OpeningsCabinet.GOING;
    private static final int MATE = OpeningsCabinet.MATE;
    private static final int STALE = OpeningsCabinet.STALE;
    private static final int DEAD = OpeningsCabinet.DEAD;
    private static final int REPEATED = OpeningsCabinet.REPEATED;
    private static final int QUIET = OpeningsCabinet.QUIET;
    private static final String START = "rnbqkbnr/pppppppp/8/8/8/8/PPPPPPPP/RNBQKBNR w KQkq -";

    public static void main(String[] args) {
        mostMoves();
        noMoves();
        startingHere();
        deadPositions();
        staleAheadOfDead();
        mateAndStaleAheadOfQuiet();
        deadAheadOfRepeated();
        repeatedAheadOfQuiet();
        thirdTimes();
        otherTimes();
        fortyQuietMoves();
        movesThatAreQuiet();
        movesThatAreNot();
        quietUpToNow();
        statesThatHinder();
        depths();
        sumsOfRows();
        rowsOfNothing();
        notProper();
        Check.end("BoundsGameTest");
    }

    /** "the moves made from it, at most 80": the 80th can be made, the 81st cannot, until one is taken back. */
    private static void mostMoves() {
        OpeningsCabinet x = new OpeningsCabinet();
        Check.rounds(x, 19);
        Check.moves(x, "Nf3 Nf6 Ng1");
        Check.same("79 moves", x.madeCount(), 79);
        int last = Check.number(x, "Ng8");
        Check.same("the 80th", x.play(last), REPEATED);
        Check.same("80 moves", x.madeCount(), 80);
        Check.same("moves are still asked", x.moveCount(), 20);
        Check.same("and their squares", x.moveFrom(0) * 100 + x.moveTo(19), 131);
        for (int move : new int[] {0, 19, -1, 20, Integer.MAX_VALUE}) {
            Check.refuses("the 81st, " + move, STATE, () -> x.play(move));
        }
        Check.same("still 80 moves", x.madeCount(), 80);
        Check.same("takeBack", x.takeBack(), 79);
        Check.refuses("a move that is none, with room for one", IndexOutOfBoundsException.class, () -> x.play(99));
        Check.same("the 80th again", x.play(last), REPEATED);
        Check.refuses("the 81st again", STATE, () -> x.play(0));
        Check.same("startHere makes room", x.startHere(), 80);
        Check.same("the first one of the new game", x.play(0), GOING);
        for (int made = 1; made > 0; made--) {
            Check.same("takeBack of the first one", x.takeBack(), made - 1);
        }
    }

    /** No move made: nothing to take back, on proper positions and others; all of 80 can be taken back. */
    private static void noMoves() {
        OpeningsCabinet x = new OpeningsCabinet();
        Check.same("madeCount", x.madeCount(), 0);
        Check.refuses("takeBack", STATE, x::takeBack);
        x.newBoard(4, 4);
        Check.refuses("takeBack on an empty board", STATE, x::takeBack);
        OpeningsCabinet y = new OpeningsCabinet();
        Check.rounds(y, 20);
        for (int left = 79; left >= 0; left--) {
            Check.same("left", y.takeBack(), left);
            Check.same("made", y.madeCount(), left);
        }
        Check.refuses("takeBack of all", STATE, y::takeBack);
        Check.same("the first position", Check.paper(y), START);
        Check.same("it stands once", y.repetitions(), 1);
    }

    /** Promise 3: with no move, one and 80; "its first position is the present position". */
    private static void startingHere() {
        OpeningsCabinet x = new OpeningsCabinet();
        Check.same("without a move", x.startHere(), 0);
        Check.moves(x, "e4 a6 e5 d5");
        String paper = Check.paper(x);
        Check.same("behind four", x.startHere(), 4);
        Check.same("the position", Check.paper(x), paper);
        Check.same("its passing square", x.passingSquare(), 43);
        Check.refuses("nothing to take back", STATE, x::takeBack);
        x.play(0);
        Check.same("behind one", x.startHere(), 1);
        // The games of the shelves are copies, and stay as they were.
        x.addGame(0, 0, 1900, 1);
        x.play(0);
        x.addGame(0, 0, 1900, 1);
        x.startHere();
        Check.same("lengths of the games", x.gameLength(0, 0) * 10 + x.gameLength(0, 1), 1);
        Check.same("games that pass here", x.count(0), 1);
        x.newBoard(4, 4);
        Check.same("on an empty board", x.startHere(), 0);
    }

    private static void state(String paper, int due) {
        Check.same("state of " + paper, Check.at(paper).state(), due);
    }

    /** "besides the kings, there is nothing, or just one bishop, or just one knight": of either side. */
    private static void deadPositions() {
        String[] kinds = {"Q", "R", "B", "N", "P"};
        for (int i = 0; i < kinds.length; i++) {
            int due = kinds[i].equals("B") || kinds[i].equals("N") ? DEAD : GOING;
            state("k7/8/8/8/8/8/4" + kinds[i] + "3/6K1 w - -", due);
            state("k7/8/8/8/8/8/4" + kinds[i] + "3/6K1 b - -", due);
            state("6k1/4" + kinds[i].toLowerCase() + "3/8/8/8/8/8/K7 w - -", due);
            state("6k1/4" + kinds[i].toLowerCase() + "3/8/8/8/8/8/K7 b - -", due);
            for (String other : kinds) {
                state("k7/8/8/8/8/8/4" + kinds[i] + "3/2" + (other.equals("P") ? "B" : other) + "3K1 w - -", GOING);
            }
        }
        state("k7/8/8/8/8/8/8/6K1 w - -", DEAD);
        state("k7/8/8/8/8/8/8/6K1 b - -", DEAD);
        // One piece of each side.
        state("kb6/8/8/8/8/8/8/5BK1 w - -", GOING);
        state("kn6/8/8/8/8/8/8/5NK1 w - -", GOING);
        state("kb6/8/8/8/8/8/8/5NK1 w - -", GOING);
        state("kn6/8/8/8/8/8/8/5BK1 w - -", GOING);
        // Two alike of one side, and three.
        state("k7/8/8/8/8/8/8/2B2BK1 w - -", GOING);
        state("k7/8/8/8/8/8/8/2N2NK1 w - -", GOING);
        state("k7/8/8/8/8/8/8/1NB2NK1 w - -", GOING);
        state("k3/4/4/3K w - -", DEAD);
        OpeningsCabinet x = Check.at("k7/8/8/8/8/8/6q1/6KN w - -");
        Check.moves(x, "Kxg2");
        Check.same("when the queen is taken", x.state(), DEAD);
    }

    /** "the first of these that applies": STALE though DEAD applies too. */
    private static void staleAheadOfDead() {
        state("k7/8/1K6/4B3/8/8/8/8 b - -", STALE);
        state("8/8/8/8/8/6k1/3n4/7K w - -", DEAD);
        state("8/8/8/8/8/6k1/4n3/7K w - -", STALE);
        state("8/8/8/8/4b3/6k1/8/6K1 w - -", DEAD);
        state("8/8/8/8/3b4/6k1/8/7K w - -", STALE);
    }

    /** MATE and STALE by the 40th quiet half move. */
    private static void mateAndStaleAheadOfQuiet() {
        OpeningsCabinet x = Check.at("1k6/8/1K6/8/8/8/8/7R b - -");
        for (int i = 0; i < 9; i++) {
            Check.moves(x, "Ka8 Rg1 Kb8 Rh1");
        }
        Check.moves(x, "Ka8 Rg1 Kb8");
        Check.same("mate with the 40th", x.play(Check.number(x, "Rg8#")), MATE);
        x.takeBack();
        Check.same("another 40th", x.play(Check.number(x, "Rg5")), QUIET);
        OpeningsCabinet y = Check.at("k7/7R/1K6/8/8/8/8/8 b - -");
        for (int i = 0; i < 9; i++) {
            Check.moves(y, "Kb8 Rg7 Ka8 Rh7");
        }
        Check.moves(y, "Kb8 Rg7 Ka8");
        Check.same("stalemate with the 40th", y.play(Check.number(y, "Rb7")), STALE);
        y.takeBack();
        Check.same("another 40th", y.play(Check.number(y, "Rf7")), QUIET);
    }

    /** DEAD, though the position stands for the third time, and behind 40 quiet half moves. */
    private static void deadAheadOfRepeated() {
        OpeningsCabinet x = Check.at("4k3/8/8/8/8/8/8/4KB2 w - -");
        for (int i = 0; i < 10; i++) {
            Check.moves(x, "Kd1 Kd8 Ke1 Ke8");
        }
        Check.same("repetitions", x.repetitions(), 11);
        Check.same("dead, repeated and quiet", x.state(), DEAD);
        Check.moves(x, "Bd3");
        Check.same("dead and quiet", x.state(), DEAD);
    }

    /** REPEATED, though 40 quiet half moves were made. */
    private static void repeatedAheadOfQuiet() {
        OpeningsCabinet x = new OpeningsCabinet();
        Check.rounds(x, 10);
        Check.same("repeated and quiet", x.state(), REPEATED);
        Check.moves(x, "Nc3");
        Check.same("quiet alone", x.state(), QUIET);
        Check.moves(x, "d6");
        Check.same("behind a move of a pawn", x.state(), GOING);
    }

    /** "at least the third time that the same position stands in the game": once, twice, three times, four times. */
    private static void thirdTimes() {
        OpeningsCabinet x = new OpeningsCabinet();
        Check.same("once", x.repetitions() * 10 + x.state(), 10 + GOING);
        Check.rounds(x, 1);
        Check.same("twice", x.repetitions() * 10 + x.state(), 20 + GOING);
        Check.rounds(x, 1);
        Check.same("three times", x.repetitions() * 10 + x.state(), 30 + REPEATED);
        Check.rounds(x, 1);
        Check.same("four times", x.repetitions() * 10 + x.state(), 40 + REPEATED);
        for (int i = 0; i < 8; i++) {
            x.takeBack();
        }
        Check.same("up to now twice", x.repetitions() * 10 + x.state(), 20 + GOING);
        x.startHere();
        Check.same("once in the new game", x.repetitions() * 10 + x.state(), 10 + GOING);
        // Three times, but not each time behind the last one.
        OpeningsCabinet y = new OpeningsCabinet();
        Check.moves(y, "Nf3 Nf6 Ng1 Ng8 Nc3 Nc6 Nb1");
        Check.same("what play answers", y.play(Check.number(y, "Nb8")), REPEATED);
        // A position that is not the first one.
        Check.moves(y, "e4 e5 Nf3 Nf6 Ng1 Ng8 Nf3 Nf6 Ng1");
        Check.same("the third time of a later one", y.play(Check.number(y, "Ng8")), REPEATED);
        Check.same("its repetitions", y.repetitions(), 3);
    }

    /** Another side, other rights or another passing square make another position: it is not the third time. */
    private static void otherTimes() {
        OpeningsCabinet x = Check.at("r3k2r/8/8/8/8/8/8/R3K2R w KQkq -");
        Check.moves(x, "Rb1 Rb8 Ra1 Ra8");
        Check.same("without two rights", x.repetitions(), 1);
        Check.moves(x, "Rg1 Rg8 Rh1 Rh8");
        Check.same("without the others", x.repetitions(), 1);
        Check.moves(x, "Rb1 Rb8 Ra1 Ra8");
        Check.same("again without rights", x.repetitions() * 10 + x.state(), 20 + GOING);
        Check.moves(x, "Rb1 Rb8 Ra1 Ra8");
        Check.same("the third time without rights", x.repetitions() * 10 + x.state(), 30 + REPEATED);
        // With the other side to move: the king loses a move by a triangle.
        OpeningsCabinet y = Check.at("4k3/8/8/8/8/8/8/R3K3 w - -");
        Check.moves(y, "Kd1 Kd8 Ke1 Kd7 Kd1 Ke8 Ke1");
        Check.same("with the other side to move", y.repetitions(), 1);
        OpeningsCabinet z = Check.at("4k3/8/8/2pP4/8/8/8/4K3 w - c6");
        for (int i = 1; i <= 3; i++) {
            Check.moves(z, "Kd1 Kd8 Ke1 Ke8");
            int due = i < 3 ? GOING : REPEATED;
            Check.same("without the passing square", z.repetitions() * 10 + z.state(), 10 * i + due);
        }
    }

    /** The letters of so many quiet moves from a position; no position comes again, and none is the end. */
    private static String[] walk(String paper, int number) {
        String[] letters = new String[number];
        Set<String> seen = new TreeSet<>();
        String at = paper;
        for (int made = 0; made < number; made++) {
            seen.add(at);
            OpeningsCabinet x = Check.at(at);
            int moves = x.moveCount();
            for (int tries = 0; tries < moves && letters[made] == null; tries++) {
                int move = (made * 37 + 11 + tries) % moves;
                boolean isOfPawn = x.pieceAt(x.moveFrom(move)) % 6 == 0;
                if (!isOfPawn && x.pieceAt(x.moveTo(move)) == 0) {
                    String word = Check.letters(x, move);
                    x.play(move);
                    String next = Check.paper(x);
                    if (x.moveCount() > 2 && x.checkers() == 0 && !seen.contains(next)) {
                        letters[made] = word;
                        at = next;
                    }
                    x.takeBack();
                }
            }
            Check.same("a quiet move was found", letters[made] != null, true);
        }
        return letters;
    }

    /** Makes some of the moves of a walk. */
    private static void follow(OpeningsCabinet x, String[] walk, int from, int to) {
        String text = String.join(" ", Arrays.copyOfRange(walk, from, to));
        Check.same("moves of a walk", Check.moves(x, text), to - from);
    }

    /** "40 half moves or more": 39, 40, 41 and 80. */
    private static void fortyQuietMoves() {
        String paper = "rn2k3/p6p/8/8/8/8/P6P/RN2K3 w - -";
        String[] walk = walk(paper, 80);
        OpeningsCabinet x = Check.at(paper);
        follow(x, walk, 0, 39);
        Check.same("39", x.state(), GOING);
        follow(x, walk, 39, 40);
        Check.same("40", x.state(), QUIET);
        follow(x, walk, 40, 41);
        Check.same("41", x.state(), QUIET);
        x.takeBack();
        x.takeBack();
        Check.same("39 again", x.state(), GOING);
        follow(x, walk, 39, 80);
        Check.same("80", x.madeCount() * 10 + x.state(), 800 + QUIET);
        OpeningsCabinet y = Check.at(paper);
        follow(y, walk, 0, 20);
        y.startHere();
        follow(y, walk, 20, 59);
        Check.same("39 behind startHere", y.state(), GOING);
        follow(y, walk, 59, 60);
        Check.same("40 behind startHere", y.state(), QUIET);
    }

    /** A first move and 39 quiet ones behind it; then one more. */
    private static void first(String paper, String move, boolean isQuiet) {
        OpeningsCabinet x = Check.at(paper);
        Check.moves(x, move);
        String[] walk = walk(Check.paper(x), 40);
        follow(x, walk, 0, 38);
        Check.same("38 behind " + move, x.state(), GOING);
        follow(x, walk, 38, 39);
        Check.same("39 behind " + move, x.state(), isQuiet ? QUIET : GOING);
        follow(x, walk, 39, 40);
        Check.same("40 behind " + move, x.state(), QUIET);
    }

    /** "none was of a pawn or took something": moves of all other pieces, and castling, are counted. */
    private static void movesThatAreQuiet() {
        String paper = "r3k2r/p2b3p/2n5/8/8/2N5/P2B3P/R3K2R w KQkq -";
        first(paper, "O-O", true);
        first(paper, "O-O-O", true);
        first(paper, "Ke2", true);
        first(paper, "Rb1", true);
        first(paper, "Bc1", true);
        first(paper, "Nb1", true);
        first("r2qk2r/p6p/2n5/8/8/2N5/P6P/R2QK2R w KQkq -", "Qf3", true);
        first("r3k2r/p2b3p/2n5/8/8/2N5/P2B3P/R3K2R b KQkq -", "O-O-O", true);
    }

    /** Moves of pawns, and takings by all pieces, begin the row anew. */
    private static void movesThatAreNot() {
        String paper = "rn2k3/p6p/8/8/8/8/P6P/RN2K3 w - -";
        first(paper, "a3", false);
        first(paper, "h4", false);
        first("rn2k3/p6p/8/8/8/1p6/P6P/RN2K3 w - -", "axb3", false);
        first("rn2k3/7p/8/pP6/8/8/7P/RN2K3 w - a6", "bxa6", false);
        first("1n4k1/P6p/8/8/8/8/7P/1N2K3 w - -", "a8=R", false);
        first("1n4k1/P6p/8/8/8/8/7P/1N2K3 w - -", "axb8=N", false);
        first("rn2k3/p6p/8/8/8/n7/P6P/RN2K3 w - -", "Nxa3", false);
        first("rn2k3/p6p/8/8/8/8/P4b1P/RN2K3 w - -", "Kxf2", false);
        first("rn2k3/p6p/8/8/n7/8/7P/RN2K3 w - -", "Rxa4", false);
        // What is taken may be of any kind.
        for (char piece : "qrbnp".toCharArray()) {
            first("1n2k3/p6p/8/8/" + piece + "7/8/7P/RN2K3 w - -", "Rxa4", false);
        }
        first("rn2k3/p6p/8/7n/6B1/8/P6P/RN2K3 w - -", "Bxh5+", false);
        first("rn2k3/p6p/8/7n/6Q1/8/P6P/RN2K3 w - -", "Qxh5+", false);
        first("rn2k3/p6p/8/8/8/1P6/p6P/1N2K2R b - -", "axb1=Q+", false);
    }

    /** "one behind the other up to now": a taking between two rows parts them. */
    private static void quietUpToNow() {
        String paper = "rn2k3/p6p/8/8/8/8/P6P/RN2K3 w - -";
        OpeningsCabinet x = Check.at(paper);
        follow(x, walk(paper, 40), 0, 40);
        Check.moves(x, "a3");
        Check.same("behind 40 and a pawn", x.state(), GOING);
        follow(x, walk(Check.paper(x), 39), 0, 39);
        Check.same("40, a pawn, 39", x.madeCount() * 10 + x.state(), 800 + GOING);
        OpeningsCabinet y = Check.at(paper);
        follow(y, walk(paper, 38), 0, 38);
        Check.moves(y, "a3");
        follow(y, walk(Check.paper(y), 40), 0, 40);
        Check.same("38, a pawn, 40", y.madeCount() * 10 + y.state(), 790 + QUIET);
        y.takeBack();
        Check.same("38, a pawn, 39", y.state(), GOING);
    }

    /** "(Only MATE and STALE hinder further moves, as there are none.)" */
    private static void statesThatHinder() {
        OpeningsCabinet dead = Check.at("k3/4/4/3K w - -");
        Check.same("a move from a dead position", dead.play(0), DEAD);
        OpeningsCabinet repeated = new OpeningsCabinet();
        Check.rounds(repeated, 2);
        Check.same("repeated", repeated.state(), REPEATED);
        Check.same("a move from it", repeated.play(8), GOING);
        OpeningsCabinet quiet = new OpeningsCabinet();
        Check.rounds(quiet, 10);
        Check.moves(quiet, "Nc3");
        Check.same("quiet", quiet.state(), QUIET);
        Check.same("a move from it", Check.moves(quiet, "Nc6"), 1);
        for (String paper : new String[] {"k7/1Q6/1K6/8/8/8/8/8 b - -", "k7/2Q5/1K6/8/8/8/8/8 b - -"}) {
            OpeningsCabinet x = Check.at(paper);
            Check.refuses("a move from " + paper, IndexOutOfBoundsException.class, () -> x.play(0));
            Check.type(x, "Ka7");
            Check.same("a text of moves", x.fault(), 0);
            Check.same("the game can be kept", x.addGame(0, 0, 1900, 1), 0);
        }
    }

    /** Promise 29: depths 1 to 3, and those beside them. */
    private static void depths() {
        OpeningsCabinet x = new OpeningsCabinet();
        int[] due = {20, 400, 8902};
        for (int depth = 1; depth <= 3; depth++) {
            Check.same("depth " + depth, x.countMoves(depth, false), due[depth - 1]);
            Check.same("depth " + depth + ", joined", x.countMoves(depth, true), due[depth - 1]);
        }
        for (int depth : new int[] {Integer.MIN_VALUE, -1, 0, 4, 5, Integer.MAX_VALUE}) {
            Check.refuses("depth " + depth, ARGUMENT, () -> x.countMoves(depth, false));
            Check.refuses("depth " + depth + ", joined", ARGUMENT, () -> x.countMoves(depth, true));
        }
    }

    /** "with a greater depth the sum, over its moves, of the rows of depth - 1 behind them". */
    private static void sumsOfRows() {
        String[] papers = {
            "k7/8/1K6/8/8/8/8/7R w - -", "8/2P4k/8/8/8/8/8/K7 w - -", "4k3/8/8/2pP4/8/8/8/4K3 w - c6",
            "k3/4/4/Q2K b - -", "r3k2r/8/8/R3K2R b KQkq -", "8/8/8/8/8/8/5k1p/7K w - -",
        };
        for (String paper : papers) {
            OpeningsCabinet x = Check.at(paper);
            int[] sums = new int[3];
            int number = x.moveCount();
            for (int move = 0; move < number; move++) {
                x.play(move);
                sums[0] += x.moveCount();
                sums[1] += x.countMoves(1, true);
                sums[2] += x.countMoves(2, false);
                x.takeBack();
            }
            Check.same("depth 1 of " + paper, x.countMoves(1, false), number);
            Check.same("depth 2 of " + paper, x.countMoves(2, true), sums[0]);
            Check.same("depth 2 again of " + paper, x.countMoves(2, false), sums[1]);
            Check.same("depth 3 of " + paper, x.countMoves(3, true), sums[2]);
        }
    }

    /** Where there are no moves there are no rows; the 80 moves of the game are no bound for rows. */
    private static void rowsOfNothing() {
        for (int depth = 1; depth <= 3; depth++) {
            Check.same("mate", Check.at("k7/1Q6/1K6/8/8/8/8/8 b - -").countMoves(depth, false), 0);
            Check.same("stalemate", Check.at("k7/2Q5/1K6/8/8/8/8/8 b - -").countMoves(depth, true), 0);
        }
        OpeningsCabinet x = new OpeningsCabinet();
        Check.rounds(x, 20);
        Check.same("rows behind 80 moves", x.countMoves(3, true), 8902);
        Check.same("the moves that were made", x.madeCount(), 80);
    }

    /**
     * "if the first position is not proper": no state, no rows; repetitions() and madeCount() are told all the same.
     */
    private static void notProper() {
        OpeningsCabinet x = new OpeningsCabinet();
        x.newBoard(4, 4);
        Check.refuses("state", STATE, x::state);
        Check.refuses("play", STATE, () -> x.play(0));
        for (int depth = 1; depth <= 3; depth++) {
            int any = depth;
            Check.refuses("countMoves", STATE, () -> x.countMoves(any, true));
        }
        Check.refuses("countMoves of no depth", ARGUMENT, () -> x.countMoves(0, true));
        Check.same("repetitions", x.repetitions(), 1);
        Check.same("madeCount", x.madeCount(), 0);
        x.put(0, 1);
        x.put(15, 7);
        Check.same("repetitions of a proper one", x.repetitions(), 1);
        Check.same("state of a proper one", x.state(), DEAD);
    }
}
