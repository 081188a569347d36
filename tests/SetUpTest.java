/** Promises 1 to 6: a new object, boards, setting up, papers that are read. */
public final class SetUpTest {
    private static final String START = "rnbqkbnr/pppppppp/8/8/8/8/PPPPPPPP/RNBQKBNR w KQkq -";
    private static final Class<IllegalArgumentException> ARGUMENT = IllegalArgumentException.class;
    private static final Class<IllegalStateException> STATE = IllegalStateException.class;
    private static final Class<IndexOutOfBoundsException> INDEX = IndexOutOfBoundsException.class;

    public static void main(String[] args) {
        newObject();
        newBoards();
        startHere();
        puts();
        sides();
        papers();
        passingSquaresOfPapers();
        Check.end("SetUpTest");
    }

    private static void newObject() {
        OpeningsCabinet x = new OpeningsCabinet();
        Check.refuses("a byte of an empty output", INDEX, () -> x.outputByte(0));
        Check.same("text of a new object", x.clearText(), 0);
        Check.same("games of a new object", x.gameCount(0) + x.gameCount(1), 0);
        Check.same("moves of a new object", x.madeCount(), 0);
        Check.same("variations of a new object", x.variationMoves(), 0);
        int[] row = {3, 5, 4, 2, 1, 4, 5, 3};
        for (int file = 0; file < 8; file++) {
            Check.same("rank 1, file " + file, x.pieceAt(file), row[file]);
            Check.same("rank 2, file " + file, x.pieceAt(8 + file), 6);
            Check.same("rank 4, file " + file, x.pieceAt(24 + file), 0);
            Check.same("rank 7, file " + file, x.pieceAt(48 + file), 12);
            Check.same("rank 8, file " + file, x.pieceAt(56 + file), row[file] + 6);
        }
        Check.same("side", x.isWhiteToMove(), true);
        Check.same("rights", x.rights(), 15);
        Check.same("passing square", x.passingSquare(), OpeningsCabinet.NONE);
        Check.same("paper", Check.paper(x), START);
        Check.same("holds", x.holds(), true);
    }

    private static void newBoards() {
        for (int files = 4; files <= 8; files++) {
            for (int ranks = 4; ranks <= 8; ranks++) {
                OpeningsCabinet x = new OpeningsCabinet();
                Check.same("squares", x.newBoard(files, ranks), files * ranks);
                int last = files * ranks - 1;
                Check.same("last square", x.pieceAt(last), 0);
                Check.refuses("square behind the last one", INDEX, () -> x.pieceAt(last + 1));
            }
        }
        OpeningsCabinet x = new OpeningsCabinet();
        Check.moves(x, "e4 (d4) e5");
        x.addGame(0, 0, 1900, 10);
        x.addGame(0, 0, 1900, 10);
        x.addGame(1, 0, 1900, 10);
        x.answer(true);
        x.ask(0, 5);
        Check.type(x, "1. e4");
        x.writeMove(0);
        Check.same("files 8, ranks 4", x.newBoard(8, 4), 32);
        Check.same("paper", Check.paper(x), "8/8/8/8 w - -");
        Check.same("madeCount", x.madeCount(), 0);
        Check.same("games", x.gameCount(0) + x.gameCount(1), 0);
        Check.same("positions", x.positionCount(0) + x.positionCount(1), 0);
        Check.same("what is asked of a1", x.ask(0, 15), 15);
        Check.same("the text is kept", x.clearText(), 5);
        Check.same("the moves in variations are kept", x.variationMoves(), 1);
        Check.same("proper", x.isProper(), false);
        Check.refuses("takeBack", STATE, x::takeBack);
        // The drill begins anew: both games are asked once, then the first one again.
        Check.paper(x, "4k3/8/8/4K3 w - -");
        x.addGame(0, 0, 1900, 10);
        x.addGame(0, 0, 1900, 10);
        x.answer(true);
        x.answer(true);
        Check.same("asked", x.asked(), 0);
        int[][] wrong = {{3, 8}, {8, 3}, {9, 8}, {8, 9}, {0, 0}, {-4, -4}, {Integer.MAX_VALUE, 4}, {4, Integer.MIN_VALUE}};
        for (int[] size : wrong) {
            Check.refuses("newBoard " + size[0] + " " + size[1], ARGUMENT, () -> x.newBoard(size[0], size[1]));
        }
        Check.same("a refused board changes nothing", x.gameCount(0), 2);
        OpeningsCabinet y = new OpeningsCabinet();
        y.newBoard(5, 5);
        y.solve(2);
        y.newBoard(5, 5);
        Check.refuses("the endings of a new board", STATE, () -> y.longest(2));
    }

    private static void startHere() {
        OpeningsCabinet x = new OpeningsCabinet();
        Check.same("startHere without moves", x.startHere(), 0);
        Check.moves(x, "Nf3 Nf6 Ng1 Ng8");
        Check.same("the start again", x.repetitions(), 2);
        Check.same("startHere", x.startHere(), 4);
        Check.same("moves then", x.madeCount(), 0);
        Check.same("repetitions then", x.repetitions(), 1);
        Check.refuses("nothing to take back", STATE, x::takeBack);
        Check.same("put is possible then", x.put(0, 0), 3);
        Check.same("startHere with an improper position", x.startHere(), 0);
        Check.moves(x, "e4");
        x.startHere();
        Check.same("the passing square stays NONE", Check.paper(x), "rnbqkbnr/pppppppp/8/8/4P3/8/PPPP1PPP/1NBQKBNR b - -");
    }

    private static void puts() {
        OpeningsCabinet x = new OpeningsCabinet();
        Check.same("put a queen on d4", x.put(27, 2), 0);
        Check.same("rights then", x.rights(), 0);
        Check.same("put nothing on d4", x.put(27, 0), 2);
        Check.same("put a black pawn on d4", x.put(27, 12), 0);
        Check.same("put a white king on d4", x.put(27, 1), 12);
        Check.same("two kings", x.isProper(), false);
        Check.same("pieceAt", x.pieceAt(27), 1);
        for (int piece = 0; piece <= 12; piece++) {
            x.put(27, piece);
            Check.same("piece " + piece, x.pieceAt(27), piece);
        }
        Check.paper(x, "4k3/8/8/2pP4/8/8/8/4K3 w - c6");
        Check.same("passing square", x.passingSquare(), 42);
        x.put(0, 0);
        Check.same("passing square after put", x.passingSquare(), -1);
        Check.refuses("square -1", INDEX, () -> x.put(-1, 1));
        Check.refuses("square 64", INDEX, () -> x.put(64, 1));
        Check.refuses("piece -1", ARGUMENT, () -> x.put(0, -1));
        Check.refuses("piece 13", ARGUMENT, () -> x.put(0, 13));
        x.play(0);
        Check.refuses("a move was made", STATE, () -> x.put(0, 1));
        Check.refuses("a move was made, no piece", ARGUMENT, () -> x.put(0, 13));
        Check.refuses("a move was made, no square, no piece", INDEX, () -> x.put(64, 13));
    }

    private static void sides() {
        OpeningsCabinet x = new OpeningsCabinet();
        Check.same("rights before", x.setSide(false, 9), 15);
        Check.same("paper then", Check.paper(x), "rnbqkbnr/pppppppp/8/8/8/8/PPPPPPPP/RNBQKBNR b Kq -");
        Check.same("rights before again", x.setSide(true, 0), 9);
        Check.refuses("rights 16", ARGUMENT, () -> x.setSide(true, 16));
        Check.refuses("rights -1", ARGUMENT, () -> x.setSide(true, -1));
        Check.paper(x, "4k3/8/8/2pP4/8/8/8/4K3 w - c6");
        x.setSide(true, 0);
        Check.same("passing square", x.passingSquare(), -1);
        x.setSide(true, 1);
        Check.same("a right without a rook", x.isProper(), false);
        Check.refuses("moves without a proper position", STATE, x::moveCount);
        x.setSide(true, 0);
        x.play(0);
        Check.refuses("a move was made", STATE, () -> x.setSide(true, 0));
        Check.refuses("a move was made, rights 16", ARGUMENT, () -> x.setSide(true, 16));
    }

    private static void papers() {
        OpeningsCabinet x = new OpeningsCabinet();
        Check.same("pieces of the start", Check.paper(x, START), 32);
        Check.same("the text is empty then", x.clearText(), 0);
        Check.same("start", Check.paper(x), START);
        isPaper("4k3/8/8/8/8/8/8/R3K2R w KQ -", 4);
        isPaper("r3k2r/8/8/8/8/8/8/R3K2R b KQkq -", 6);
        isPaper("r3k2r/8/8/8/8/8/8/R3K2R b Qk -", 6);
        isPaper("k2K/4/4/qrbn w - -", 6);
        isPaper("3k1/5/1P3/5/3K1 b - -", 3);
        isPaper("r3k3/8/8/4K2R w q -", 4);
        String[] wrong = {
            "", " ", "8/8/8/8/8/8/8/8 w - -",
            START + " ", " " + START, START + "-", START.replace(" w ", "  w "), START.replace(" w ", " W "),
            START.replace("KQkq", "QKkq"), START.replace("KQkq", "KQkqk"), START.replace("KQkq", "kqKQ"),
            START.replace("KQkq", "KQkq-"), START.replace("KQkq", ""), START.replace("8/8/8/8", "44/8/8/8"),
            START.replace("8/8/8/8", "8/8/8"), START.replace("8/8/8/8", "8/8/8/8/8"), START.replace("8/8/8/8", "8/8/8/9"),
            START.replace("8/8/8/8", "8/8/8/7"), START.replace("8/8/8/8", "8/8/8/71"), START.replace("8/8/8/8", "08/8/8/8"),
            START.replace("rnbqkbnr", "rnbqkbnx"), START.replace("rnbqkbnr", "rnbqkbn"), START.replace("rnbqkbnr", "rnbqkbnrr"),
            START.replace("rnbqkbnr", "rnbqqbnr"), START.replace("rnbqkbnr", "rnbkkbnr"), START.replace("/", "|"),
            START.substring(0, START.length() - 1), START.substring(0, START.length() - 2), "w - -",
            "4k3/8/8/8/8/8/8/4K2P w - -", "4k2p/8/8/8/8/8/8/4K3 w - -", "4k3/8/8/8/8/8/8/4K3 w K -",
            "4k3/8/8/8/8/8/8/R3K3 w K -", "4k3/8/8/8/8/8/8/3K3R w K -", "4k2R/8/8/8/8/8/8/4K3 w k -",
            "4k3/4R3/8/8/8/8/8/4K3 w - -", "4k3/8/8/8/8/8/4r3/4K3 b - -", "4k3/8/8/8/8/8/8/4K3 w - e4",
            "4k3/8/8/8/8/8/8/4K3 w - e3", "4k3/8/8/8/8/8/8/4K3 w - i9", "4k3/8/8/8/8/8/8/4K3 w - e", "3k/4/4/K3 w - -",
            "xk6/8/8/8/8/8/8/4K3 w - -", "0k6/8/8/8/8/8/8/4K3 w - -", " k6/8/8/8/8/8/8/4K3 w - -",
            "/k6/8/8/8/8/8/8/4K3 w - -", "1k6/8/8/8/8/8/8/4K3 w - ",
        };
        for (String paper : wrong) {
            Check.type(x, paper);
            Check.refuses("paper " + paper, ARGUMENT, x::readPaper);
            Check.same("the text then", x.clearText(), 0);
        }
        Check.same("a refused paper changes nothing", Check.paper(x), START);
        x.play(0);
        Check.type(x, START);
        Check.refuses("a move was made", STATE, x::readPaper);
        Check.same("the text then", x.clearText(), 0);
        Check.type(x, START + ".");
        Check.refuses("a move was made and no paper", ARGUMENT, x::readPaper);
        Check.same("the text then", x.clearText(), 0);
        Check.same("the moves then", x.madeCount(), 1);
    }

    private static void isPaper(String paper, int pieces) {
        OpeningsCabinet x = new OpeningsCabinet();
        Check.same("pieces of " + paper, Check.board(x, paper), pieces);
        Check.same("written again", Check.paper(x), paper);
    }

    private static void passingSquaresOfPapers() {
        isPaper("4k3/8/8/8/3pP3/8/8/4K3 b - e3", 4);
        isPaper("4k3/8/8/8/4Pp2/8/8/4K3 b - e3", 4);
        isPaper("4k3/8/8/Pp6/8/8/8/4K3 w - b6", 4);
        isPaper("4k3/8/8/6pP/8/8/8/4K3 w - g6", 4);
        isPaper("4k3/8/3pP3/8/8/4K3 b - e3", 4);
        isPaper("k3/4/4/pP2/4/K3 w - a4", 4);
        isPaper("k3/4/4/pP2/4/4/K3 w - a5", 4);
        String[] wrong = {
            "4k3/8/8/8/3pP3/8/8/4K3 w - e3", "4k3/8/8/8/3pP3/8/4B3/4K3 b - e3", "4k3/8/8/8/3pP3/4B3/8/4K3 b - e3",
            "4k3/8/8/8/2p1P3/8/8/4K3 b - e3", "4k3/8/8/8/3pB3/8/8/4K3 b - e3", "4k3/8/8/8/3Pp3/8/8/4K3 b - e3",
            "4k3/8/8/8/3pP3/8/8/4K3 b - e4", "4k3/8/8/8/3pP3/8/8/4K3 b - e2", "4k3/8/8/8/3pP3/8/8/4K3 b - d3",
            "4k3/8/8/8/4P2p/8/8/4K3 b - e3", "4k3/8/8/8/P7/7p/8/4K3 b - a3", "4k3/8/3pP3/8/4K3 b - e2",
            "4k3/8/8/pP6/8/8/8/4K3 b - a6", "4k3/8/8/8/3PP3/8/8/4K3 b - e3", "4k3/8/8/8/3pp3/8/8/4K3 b - e3",
            "4k3/8/3pP3/8/4K3 b - e3", "4k3/3pP3/8/8/4K3 b - e3", "4k3/8/8/7P/p7/8/8/4K3 w - a6",
            "4k3/8/8/7p/P7/8/8/4K3 b - a3", "k3/4/4/pP2/4/4/K3 w - a4",
        };
        for (String paper : wrong) {
            OpeningsCabinet x = new OpeningsCabinet();
            Check.refuses("paper " + paper, ARGUMENT, () -> Check.board(x, paper));
        }
    }
}
