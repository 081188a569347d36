/** The bounds of section 9 and of promises 49 to 51: what a pattern asks, of which squares, and where it holds. */
public final class BoundsPatternsTest {
    private static final Class<IllegalArgumentException> ARGUMENT = IllegalArgumentException.class;
    private static final Class<IndexOutOfBoundsException> INDEX = IndexOutOfBoundsException.class;
    private static final int WHITE = OpeningsCabinet.WHITE;
    private static final int BLACK = OpeningsCabinet.BLACK;
    private static final int ANY = OpeningsCabinet.ANY;

    public static void main(String[] args) {
        rangeOfQuestions();
        questionsAndPieces();
        squaresOfPatterns();
        allSquares();
        newBoards();
        keptPatterns();
        countedPositions();
        positionsByTheirSquares();
        Check.end("BoundsPatternsTest");
    }

    /** "what: 0 to ANY", and the numbers beside these; "Returns what it asked before", ANY at first. */
    private static void rangeOfQuestions() {
        for (int square : new int[] {0, 27, 63}) {
            OpeningsCabinet x = new OpeningsCabinet();
            int before = ANY;
            for (int what = 0; what <= 15; what++) {
                Check.same("before " + what, x.ask(square, what), before);
                before = what;
            }
            for (int what : new int[] {Integer.MIN_VALUE, -15, -1, 16, 17, 31, 256, Integer.MAX_VALUE}) {
                Check.refuses("what " + what, ARGUMENT, () -> x.ask(square, what));
                Check.refuses("what " + what + " of no square", INDEX, () -> x.ask(64, what));
            }
            Check.same("a refused one asks nothing", x.ask(square, 0), ANY);
            Check.same("other squares are asked nothing", x.ask(square ^ 1, ANY), ANY);
        }
    }

    /** "ANY, or what stands on it (0 to 12), or WHITE or BLACK, a piece of this side": each of each. */
    private static void questionsAndPieces() {
        for (int piece = 0; piece <= 12; piece++) {
            OpeningsCabinet x = new OpeningsCabinet();
            x.newBoard(4, 4);
            x.put(6, piece);
            for (int what = 0; what <= 15; what++) {
                x.ask(6, what);
                boolean isWhite = piece >= 1 && piece <= 6;
                boolean due = what == ANY || what == piece || what == WHITE && isWhite || what == BLACK && piece >= 7;
                Check.same(what + " asked of " + piece, x.holds(), due);
            }
        }
    }

    /** The first and the last square of boards, asked what does not stand there. */
    private static void squaresOfPatterns() {
        for (int files = 4; files <= 8; files++) {
            for (int ranks = 4; ranks <= 8; ranks++) {
                OpeningsCabinet x = new OpeningsCabinet();
                int size = x.newBoard(files, ranks);
                for (int square : new int[] {0, files - 1, size - files, size - 1}) {
                    x.ask(square, 3);
                    Check.same("a rook is asked of " + square, x.holds(), false);
                    x.put(square, 3);
                    Check.same("it stands on " + square, x.holds(), true);
                    x.ask(square, 0);
                    Check.same("nothing is asked of " + square, x.holds(), false);
                    x.ask(square, ANY);
                    Check.same("anything is asked of " + square, x.holds(), true);
                }
                Check.refuses("the square behind the last one", INDEX, () -> x.ask(size, ANY));
                Check.refuses("the square ahead of the first one", INDEX, () -> x.ask(-1, ANY));
            }
        }
    }

    /** A question of each square: it holds if all do, and no more if one does not. */
    private static void allSquares() {
        OpeningsCabinet x = new OpeningsCabinet();
        for (int square = 0; square < 64; square++) {
            x.ask(square, x.pieceAt(square));
        }
        Check.same("the usual first position", x.holds(), true);
        Check.moves(x, "e4");
        Check.same("behind a move", x.holds(), false);
        x.takeBack();
        for (int square = 0; square < 64; square++) {
            int asked = x.ask(square, square < 32 ? BLACK : WHITE);
            Check.same("one wrong one, " + square, x.holds(), false);
            x.ask(square, asked);
        }
        Check.same("all again", x.holds(), true);
    }

    /** "At first, and on a new board, it asks ANY of all squares": also of those that a smaller board does not have. */
    private static void newBoards() {
        OpeningsCabinet x = new OpeningsCabinet();
        x.ask(0, 3);
        x.ask(63, 9);
        x.ask(15, 1);
        Check.refuses("a refused board", ARGUMENT, () -> x.newBoard(9, 9));
        Check.same("it asks what it asked", x.ask(15, 6) * 100 + x.ask(63, 9), 109);
        x.newBoard(4, 4);
        Check.same("on the empty board", x.holds(), true);
        x.newBoard(8, 8);
        Check.same("on the greater one", x.holds(), true);
        for (int square = 0; square < 64; square++) {
            Check.same("asked of " + square, x.ask(square, ANY), ANY);
        }
    }

    /** No other call changes the pattern. */
    private static void keptPatterns() {
        OpeningsCabinet x = new OpeningsCabinet();
        x.ask(4, 1);
        x.play(0);
        x.startHere();
        x.put(0, 0);
        x.setSide(false, 0);
        Check.paper(x, "4k3/8/8/8/8/8/8/4K3 w - -");
        x.addGame(0, 0, 1900, 1);
        x.merge();
        Check.same("it holds", x.holds(), true);
        x.put(4, 0);
        Check.same("it does not hold", x.holds(), false);
        Check.same("what it asks", x.ask(4, ANY), 1);
    }

    /** Promise 51: "the different positions ... in which the pattern holds": none, some, all. */
    private static void countedPositions() {
        OpeningsCabinet x = new OpeningsCabinet();
        Check.same("no games", x.patternCount(0) + x.patternCount(1), 0);
        Check.moves(x, "Nf3 Nf6 Ng1 Ng8 Nf3 e6");
        x.addGame(0, 0, 1900, 1);
        x.addGame(0, 0, 1900, 1);
        Check.same("all", x.patternCount(0), 5);
        Check.same("as many as there are", x.positionCount(0), 5);
        x.ask(21, 5);
        Check.same("with Nf3", x.patternCount(0), 3);
        x.ask(45, 11);
        Check.same("with both knights", x.patternCount(0), 1);
        x.ask(44, 12);
        Check.same("with a pawn on e6 too", x.patternCount(0), 0);
        x.ask(45, ANY);
        Check.same("the last position of the games", x.patternCount(0), 1);
        x.ask(21, ANY);
        x.ask(44, ANY);
        x.ask(6, 5);
        x.ask(62, 11);
        Check.same("the first position of the games", x.patternCount(0), 1);
        Check.same("none on the other shelf", x.patternCount(1), 0);
        x.addGame(1, 0, 1900, 1);
        Check.same("one on the other shelf", x.patternCount(1), 1);
        x.merge();
        Check.same("none there when they are merged", x.patternCount(1), 0);
    }

    /** A pattern asks of squares alone: side, rights and passing square make positions that are counted each. */
    private static void positionsByTheirSquares() {
        OpeningsCabinet x = Check.at("r3k2r/8/8/1pPp4/8/8/8/R3K2R w KQkq d6");
        x.ask(4, 1);
        x.addGame(0, 0, 1900, 1);
        Check.paper(x, "r3k2r/8/8/1pPp4/8/8/8/R3K2R w KQkq b6");
        x.addGame(0, 0, 1900, 1);
        x.setSide(true, 15);
        x.addGame(0, 0, 1900, 1);
        x.setSide(true, 14);
        x.addGame(0, 0, 1900, 1);
        x.setSide(false, 14);
        x.addGame(0, 0, 1900, 1);
        x.addGame(0, 0, 1900, 1);
        Check.same("five positions of the same squares", x.patternCount(0), 5);
    }
}
