/** Promises 7 to 18: what is asked of the present position. */
public final class PositionTest {
    private static final Class<IllegalStateException> STATE = IllegalStateException.class;
    private static final Class<IndexOutOfBoundsException> INDEX = IndexOutOfBoundsException.class;

    public static void main(String[] args) {
        squares();
        rightsAndSides();
        proper();
        attacks();
        checkers();
        pins();
        output();
        material();
        openFiles();
        Check.end("PositionTest");
    }

    private static OpeningsCabinet improper() {
        OpeningsCabinet x = new OpeningsCabinet();
        x.put(4, 0);
        return x;
    }

    private static void squares() {
        OpeningsCabinet x = Check.at("k3/4/1q2/2P1/3K w - -");
        Check.same("a5", x.pieceAt(16), 7);
        Check.same("b3", x.pieceAt(9), 8);
        Check.same("c2", x.pieceAt(6), 6);
        Check.same("d1", x.pieceAt(3), 1);
        Check.same("d5", x.pieceAt(19), 0);
        for (int square : new int[] {-1, 20, 64, Integer.MIN_VALUE, Integer.MAX_VALUE}) {
            Check.refuses("pieceAt " + square, INDEX, () -> x.pieceAt(square));
            Check.refuses("isAttacked " + square, INDEX, () -> x.isAttacked(square, true));
            Check.refuses("isPinned " + square, INDEX, () -> x.isPinned(square));
        }
        Check.refuses("isPinned of no square, not proper", INDEX, () -> improper().isPinned(64));
        Check.refuses("isPinned, not proper", STATE, () -> improper().isPinned(63));
    }

    private static void rightsAndSides() {
        OpeningsCabinet x = new OpeningsCabinet();
        Check.moves(x, "e4");
        Check.same("side", x.isWhiteToMove(), false);
        Check.same("no pawn is beside e4", x.passingSquare(), -1);
        Check.moves(x, "a5 e5 d5");
        Check.same("passing d6", x.passingSquare(), 43);
        Check.same("paper", Check.paper(x), "rnbqkbnr/1pp1pppp/8/p2pP3/8/8/PPPP1PPP/RNBQKBNR w KQkq d6");
        x.takeBack();
        Check.same("passing square taken back", x.passingSquare(), -1);
        Check.moves(x, "Ra6 Ke2");
        Check.same("rights", x.rights(), 4);
        Check.same("paper", Check.paper(x), "1nbqkbnr/1ppppppp/r7/p3P3/8/8/PPPPKPPP/RNBQ1BNR b k -");
        Check.same("first step of Black", lastPassing("f5"), 45);
        Check.same("first step beside nothing", lastPassing("h5"), -1);
        Check.same("one step", lastPassing("f6"), -1);
    }

    private static int lastPassing(String move) {
        OpeningsCabinet x = new OpeningsCabinet();
        Check.moves(x, "e4 a5 e5 " + move);
        return x.passingSquare();
    }

    private static void proper() {
        Check.same("start", new OpeningsCabinet().isProper(), true);
        Check.same("without a king", improper().isProper(), false);
        isProper("4k3/8/8/8/8/8/8/4K3", true, 0, true);
        isProper("4k3/8/8/8/8/8/8/4K2K", true, 0, false);
        isProper("8/8/8/8/8/8/8/4K3", true, 0, false);
        isProper("8/8/8/8/8/8/4k3/4K3", true, 0, false);
        isProper("4k3/8/8/8/8/8/4r3/4K3", true, 0, true);
        isProper("4k3/8/8/8/8/8/4r3/4K3", false, 0, false);
        isProper("4k3/8/8/8/8/8/3p4/4K3", true, 0, true);
        isProper("4k3/8/8/8/8/8/3p4/4K3", false, 0, false);
        isProper("P3k3/8/8/8/8/8/8/4K3", true, 0, false);
        isProper("p3k3/8/8/8/8/8/8/4K3", true, 0, false);
        isProper("4k3/8/8/8/8/8/8/4K2p", true, 0, false);
        isProper("4k3/P6p/8/8/8/8/p6P/4K3", true, 0, true);
        isProper("r3k2r/8/8/8/8/8/8/R3K2R", true, 15, true);
        for (int right = 1; right <= 8; right *= 2) {
            isProper("4k3/8/8/8/8/8/8/4K3", true, right, false);
            isProper("R3k2R/8/8/8/8/8/8/r3K2r", false, right, false);
            isProper("r2k3r/8/8/8/8/8/8/R2K3R", true, right, false);
        }
        isProper("4k3/8/8/8/8/8/8/R3K3", true, 2, true);
        isProper("4k3/8/8/8/8/8/8/R3K3", true, 1, false);
        isProper("4k2r/8/8/8/8/8/8/4K3", true, 4, true);
        isProper("4k2r/8/8/8/8/8/8/4K3", true, 8, false);
        isProper("4k3/7r/8/8/8/8/8/4K3", true, 4, false);
        isProper("r3k2r/8/8/R3K2R", true, 15, true);
        isProper("r3k2/6/6/R3K1", true, 2, false);
        isProper("r3k2r/8/8/8/8/8/8/R3K2R", false, 10, true);
    }

    private static void isProper(String squares, boolean isWhite, int rights, boolean due) {
        OpeningsCabinet x = Check.placed(squares, isWhite, rights);
        Check.same("proper " + squares + " " + isWhite + " " + rights, x.isProper(), due);
        if (!due) {
            Check.refuses("moves of " + squares, STATE, x::moveCount);
            Check.refuses("state of " + squares, STATE, x::state);
            Check.refuses("checkers of " + squares, STATE, x::checkers);
        }
    }

    private static void attacks() {
        attacked("4k3/8/8/8/3Q4/8/8/K7 w - -", true, "a4b4c4e4f4g4h4d1d2d3d5d6d7d8a7b6c5e5f6g7h8e3f2g1b2c3a1a2b1");
        attacked("4k3/8/8/2P5/1PR1p3/2p5/8/K7 w - -", true, "b4d4e4c3c5a5c5b6d6a2b1b2");
        attacked("4k3/8/8/8/8/1p6/8/K1B5 w - -", true, "b2a3d2e3f4g5h6a2b1");
        attacked("4k3/8/8/8/8/8/8/KN6 w - -", true, "a3c3d2a2b1b2");
        attacked("4k3/8/8/8/p6p/8/8/K7 w - -", false, "b3g3d8f8d7e7f7");
        attacked("4k3/8/8/3pP3/8/8/8/K7 w - d6", true, "f6d6a2b1b2");
        OpeningsCabinet x = improper();
        x.put(63, 6);
        x.put(0, 12);
        Check.same("a pawn on its last rank attacks nothing", x.isAttacked(62, true), false);
        Check.same("a black pawn on its last rank attacks nothing", x.isAttacked(1, false), false);
        Check.same("attack without a king", x.isAttacked(21, true), true);
    }

    private static void attacked(String paper, boolean byWhite, String squares) {
        OpeningsCabinet x = Check.at(paper);
        for (int square = 0; square < 64; square++) {
            String name = "" + (char) ('a' + square % 8) + (char) ('1' + square / 8);
            boolean due = false;
            for (int i = 0; i + 2 <= squares.length(); i += 2) {
                due |= squares.startsWith(name, i);
            }
            Check.same(name + " is attacked in " + paper, x.isAttacked(square, byWhite), due);
        }
    }

    private static void checkers() {
        Check.same("start", new OpeningsCabinet().checkers(), 0);
        Check.same("one", Check.at("4k3/8/8/8/8/8/4r3/4K3 w - -").checkers(), 1);
        Check.same("two", Check.at("4k3/4r3/8/8/8/3n4/8/4K3 w - -").checkers(), 2);
        Check.same("four", Check.at("4k3/4r3/8/8/8/3n4/3p4/4K1q1 w - -").checkers(), 4);
        Check.same("not those of the side to move", Check.at("4k3/8/8/8/8/8/8/K3R3 b - -").checkers(), 1);
        Check.refuses("not proper", STATE, () -> improper().checkers());
    }

    private static void pins() {
        pinned("4r1k1/8/8/8/4B3/8/8/4K3 w - -", "e4");
        pinned("4r1k1/8/4p3/8/4B3/8/8/4K3 w - -", "");
        pinned("4r1k1/8/8/4N3/4B3/8/8/4K3 w - -", "");
        pinned("6k1/8/8/7b/q3r3/8/2P1PP2/3K4 w - -", "c2e2");
        pinned("6k1/8/8/8/8/q7/1P6/K7 w - -", "");
        pinned("6k1/8/8/8/q7/8/2P5/3K4 w - -", "c2");
        pinned("6k1/8/8/8/8/8/3n4/K2R3r w - -", "d1");
        pinned("6k1/6p1/8/8/8/8/1B6/K5R1 b - -", "g7");
        // In check by one piece and pinned against another one.
        pinned("4r1k1/8/8/8/4B3/3n4/8/4K3 w - -", "e4");
        pinned("k7/8/8/8/8/8/4R3/4K3 w - -", "");
        Check.same("an empty square", Check.at("4r1k1/8/8/8/8/8/8/4K3 w - -").isPinned(28), false);
    }

    private static void pinned(String paper, String squares) {
        OpeningsCabinet x = Check.at(paper);
        StringBuilder found = new StringBuilder();
        for (int square = 0; square < 64; square++) {
            if (x.isPinned(square)) {
                found.append((char) ('a' + square % 8)).append((char) ('1' + square / 8));
            }
        }
        Check.same("pinned in " + paper, found.toString(), squares);
    }

    private static void output() {
        OpeningsCabinet x = new OpeningsCabinet();
        Check.same("bytes of the paper", x.writePaper(), 52);
        Check.same("first byte", x.outputByte(0), (int) 'r');
        Check.same("last byte", x.outputByte(51), (int) '-');
        Check.refuses("byte 52", INDEX, () -> x.outputByte(52));
        Check.refuses("byte -1", INDEX, () -> x.outputByte(-1));
        Check.same("in place of what is there", x.writeMove(0), 3);
        Check.refuses("byte 3", INDEX, () -> x.outputByte(3));
        OpeningsCabinet y = new OpeningsCabinet();
        y.newBoard(4, 4);
        y.put(0, 6);
        y.put(15, 12);
        y.setSide(false, 6);
        Check.same("the paper of an improper position", Check.paper(y), "3p/4/4/P3 b Qk -");
        y.newBoard(7, 5);
        Check.same("an empty board", Check.paper(y), "7/7/7/7/7 w - -");
        y.put(3, 1);
        y.put(5, 7);
        Check.same("rows of empty squares", Check.paper(y), "7/7/7/7/3K1k1 w - -");
    }

    private static void material() {
        OpeningsCabinet x = new OpeningsCabinet();
        Check.same("White", x.material(true), 39);
        Check.same("Black", x.material(false), 39);
        OpeningsCabinet y = Check.at("qr2k3/p7/8/8/8/8/PP6/BN2K3 w - -");
        Check.same("bishop, knight, two pawns", y.material(true), 8);
        Check.same("queen, rook, pawn", y.material(false), 15);
        Check.same("a bare king", Check.at("4k3/8/8/8/8/8/8/4K3 w - -").material(false), 0);
    }

    private static void openFiles() {
        OpeningsCabinet x = Check.at("4k3/p7/8/8/8/8/1P3R2/4K3 w - -");
        boolean[] due = {false, false, true, true, true, true, true, true};
        for (int file = 0; file < 8; file++) {
            Check.same("open file " + file, x.isOpenFile(file), due[file]);
        }
        Check.refuses("file -1", INDEX, () -> x.isOpenFile(-1));
        Check.refuses("file 8", INDEX, () -> x.isOpenFile(8));
        x.newBoard(4, 8);
        Check.same("the last file of four", x.isOpenFile(3), true);
        Check.refuses("file 4 of four", INDEX, () -> x.isOpenFile(4));
        // Pawns count in improper positions too, on the first and the last rank.
        x.put(0, 6);
        x.put(30, 12);
        Check.same("a pawn on a1", x.isOpenFile(0), false);
        Check.same("no pawn on the file b", x.isOpenFile(1), true);
        Check.same("a pawn on c8", x.isOpenFile(2), false);
    }
}
