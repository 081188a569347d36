import java.util.Set;
import java.util.TreeSet;

/** The bounds of the moves of section 3 and of promises 19 to 24: pawns, edges, castling, rights, numbers of moves. */
public final class BoundsMovesTest {
    private static final Class<IllegalStateException> STATE = IllegalStateException.class;
    private static final Class<IndexOutOfBoundsException> INDEX = IndexOutOfBoundsException.class;
    private static final int NONE = OpeningsCabinet.NONE;

    public static void main(String[] args) {
        stepsOfPawns();
        blockedPawns();
        takingPawns();
        piecesAmidOthers();
        promotions();
        passingSquaresBehindSteps();
        noPassingSquares();
        passingSquaresAtTheEdges();
        passingSquaresAreForOneMove();
        takingInPassing();
        movesToThePassingSquare();
        rightsToCastle();
        castlingPastPieces();
        castlingPastAttacks();
        castledPieces();
        lostRights();
        keptRights();
        numbersInOrder();
        countsOfMoves();
        numbersOfMoves();
        notProper();
        Check.end("BoundsMovesTest");
    }

    /** Where the piece on a square can go, with what it becomes, in the order of the numbers. */
    private static String goals(OpeningsCabinet x, int square, int files) {
        StringBuilder found = new StringBuilder();
        int number = x.moveCount();
        for (int move = 0; move < number; move++) {
            if (x.moveFrom(move) == square) {
                int becomes = x.moveBecomes(move);
                found.append(found.length() > 0 ? " " : "").append(Check.name(x.moveTo(move), files));
                found.append(becomes == 0 ? "" : "=" + becomes);
            }
        }
        return found.toString();
    }

    /**
     * "one square forward ...; from its second rank also two squares forward, if ... the board has at least 6 ranks".
     */
    private static void stepsOfPawns() {
        for (int ranks = 4; ranks <= 8; ranks++) {
            for (int file = 0; file < 8; file++) {
                for (int rank = 1; rank < ranks - 1; rank++) {
                    for (boolean isWhite : new boolean[] {true, false}) {
                        OpeningsCabinet x = new OpeningsCabinet();
                        x.newBoard(8, ranks);
                        x.put((file + 4) % 8, 1);
                        x.put((ranks - 1) * 8 + (file + 4) % 8, 7);
                        x.put(rank * 8 + file, isWhite ? 6 : 12);
                        x.setSide(isWhite, 0);
                        String what = "pawn on " + Check.name(rank * 8 + file, 8) + " of " + ranks + " ranks";
                        Check.same(what, goals(x, rank * 8 + file, 8), stepsDue(file, rank, ranks, isWhite));
                    }
                }
            }
        }
    }

    private static String stepsDue(int file, int rank, int ranks, boolean isWhite) {
        int forward = isWhite ? 1 : -1;
        String one = Check.name((rank + forward) * 8 + file, 8);
        if (rank + forward == (isWhite ? ranks - 1 : 0)) {
            return one + "=2 " + one + "=3 " + one + "=4 " + one + "=5";
        }
        if (rank != (isWhite ? 1 : ranks - 2) || ranks < 6) {
            return one;
        }
        String two = Check.name((rank + 2 * forward) * 8 + file, 8);
        return isWhite ? one + " " + two : two + " " + one;
    }

    /** "if that square is empty ... if both squares are empty": a piece of either side on the one or the other. */
    private static void blockedPawns() {
        for (int ranks = 6; ranks <= 8; ranks++) {
            String far = "8/".repeat(ranks - 6);
            for (char piece : "QRBNPqrbnp".toCharArray()) {
                steps("7k/8/" + far + "8/" + piece + "7/P7/7K", true, 8, "");
                steps("7k/8/" + far + piece + "7/8/P7/7K", true, 8, "a3");
                steps("7k/8/" + far + piece + "7/" + piece + "7/P7/7K", true, 8, "");
                int second = (ranks - 2) * 8;
                String one = "a" + (ranks - 2);
                steps("7k/p7/" + piece + "7/8/" + far + "8/7K", false, second, "");
                steps("7k/p7/8/" + piece + "7/" + far + "8/7K", false, second, one);
                steps("7k/p7/" + piece + "7/" + piece + "7/" + far + "8/7K", false, second, "");
            }
            steps("7k/8/" + far + "8/8/P7/7K", true, 8, "a3 a4");
        }
    }

    private static void steps(String squares, boolean isWhite, int square, String due) {
        OpeningsCabinet x = Check.placed(squares, isWhite, 0);
        Check.same("checkers in " + squares, x.checkers(), 0);
        Check.same("steps in " + squares, goals(x, square, 8), due);
    }

    /** "diagonally in front of it (as far as the board has them)": a rival on each other square of the board. */
    private static void takingPawns() {
        for (int file : new int[] {0, 4, 7}) {
            for (int other = 8; other < 56; other++) {
                for (boolean isWhite : new boolean[] {true, false}) {
                    int square = (isWhite ? 3 : 4) * 8 + file;
                    int ahead = isWhite ? square + 8 : square - 8;
                    if (other == square) {
                        continue;
                    }
                    OpeningsCabinet x = new OpeningsCabinet();
                    x.newBoard(8, 8);
                    // Pawns attack no king that stands behind them.
                    x.put(60, 1);
                    x.put(4, 7);
                    x.put(square, isWhite ? 6 : 12);
                    x.put(other, isWhite ? 12 : 6);
                    x.setSide(isWhite, 0);
                    boolean isTaken = other / 8 == ahead / 8 && Math.abs(other % 8 - file) == 1;
                    Set<Integer> goals = new TreeSet<>();
                    if (other != ahead) {
                        goals.add(ahead);
                    }
                    if (isTaken) {
                        goals.add(other);
                    }
                    StringBuilder due = new StringBuilder();
                    for (int goal : goals) {
                        due.append(due.length() > 0 ? " " : "").append(Check.name(goal, 8));
                    }
                    Check.same("pawn on " + square + " with a rival on " + other, goals(x, square, 8), due.toString());
                }
            }
        }
    }

    /** "They move to squares that are empty or have a piece of the other side": amid own pieces none can move. */
    private static void piecesAmidOthers() {
        int[] beside = {-9, -8, -7, -1, 1, 7, 8, 9};
        int[] leaps = {-17, -15, -10, -6, 6, 10, 15, 17};
        for (int kind = 1; kind <= 5; kind++) {
            for (boolean isWhite : new boolean[] {true, false}) {
                OpeningsCabinet own = amid(kind, isWhite, kind == 5 ? leaps : beside, isWhite ? 6 : 12);
                Check.same(kind + " amid its own side, White: " + isWhite, goals(own, 27, 8), "");
                if (kind > 1) {
                    OpeningsCabinet rivals = amid(kind, isWhite, kind == 5 ? leaps : beside, isWhite ? 12 : 6);
                    String[] due = {
                        "c3 d3 e3 c4 e4 c5 d5 e5", "d3 c4 e4 d5", "c3 e3 c5 e5", "c2 e2 b3 f3 b5 f5 c6 e6",
                    };
                    Check.same(kind + " amid rivals, White: " + isWhite, goals(rivals, 27, 8), due[kind - 2]);
                }
            }
        }
        Check.same("a pawn amid its own side", goals(Check.at("k7/8/8/8/PPP5/1P6/8/7K w - -"), 17, 8), "");
        Check.same("a pawn of Black", goals(Check.at("k7/8/1p6/ppp5/8/8/8/7K b - -"), 41, 8), "");
    }

    /** A piece on d4 with pawns around it. */
    private static OpeningsCabinet amid(int kind, boolean isWhite, int[] steps, int pawn) {
        OpeningsCabinet x = new OpeningsCabinet();
        x.newBoard(8, 8);
        x.put(0, 1);
        x.put(63, 7);
        if (kind == 1) {
            x.put(isWhite ? 0 : 63, 0);
        }
        x.put(27, isWhite ? kind : kind + 6);
        for (int step : steps) {
            x.put(27 + step, pawn);
        }
        x.setSide(isWhite, 0);
        return x;
    }

    /** "becomes a queen, a rook, a bishop or a knight of its side: these are four different moves", on each file. */
    private static void promotions() {
        for (int file = 0; file < 8; file++) {
            for (boolean isWhite : new boolean[] {true, false}) {
                OpeningsCabinet x = new OpeningsCabinet();
                x.newBoard(8, 5);
                int forward = isWhite ? 8 : -8;
                int square = (isWhite ? 24 : 8) + file;
                // The kings stand on the middle rank, where nothing attacks them before the pawn has become something.
                x.put(16 + (file + 4) % 8, isWhite ? 1 : 7);
                x.put(16 + (file + 2) % 8, isWhite ? 7 : 1);
                x.put(square, isWhite ? 6 : 12);
                for (int side = -1; side <= 1; side += 2) {
                    if (file + side >= 0 && file + side < 8) {
                        x.put(square + forward + side, isWhite ? 11 : 5);
                    }
                }
                x.setSide(isWhite, 0);
                Check.same("checkers", x.checkers(), 0);
                StringBuilder due = new StringBuilder();
                for (int to = Math.max(0, file - 1); to <= Math.min(7, file + 1); to++) {
                    for (int kind = 2; kind <= 5; kind++) {
                        String name = Check.name(square + forward + to - file, 8);
                        due.append(due.length() > 0 ? " " : "").append(name).append('=').append(kind);
                    }
                }
                Check.same("promotions of " + square, goals(x, square, 8), due.toString());
                becoming(x, square, isWhite);
            }
        }
        for (int ranks = 4; ranks <= 8; ranks++) {
            OpeningsCabinet x = Check.at("4k/P4" + "/5".repeat(ranks - 3) + "/4K w - -");
            int move = x.moveCount() - 4;
            for (int kind = 2; kind <= 5; kind++) {
                Check.same("what it becomes on " + ranks + " ranks", x.moveBecomes(move + kind - 2), kind);
            }
        }
    }

    private static void becoming(OpeningsCabinet x, int square, boolean isWhite) {
        int number = x.moveCount();
        for (int move = 0; move < number; move++) {
            int becomes = x.moveBecomes(move);
            Check.same("a pawn becomes something", becomes != 0, x.moveFrom(move) == square);
            if (becomes != 0) {
                int to = x.moveTo(move);
                x.play(move);
                Check.same("what stands there", x.pieceAt(to), becomes + (isWhite ? 0 : 6));
                Check.same("what is left of the pawn", x.pieceAt(square), 0);
                x.takeBack();
            }
        }
    }

    private static int passingBehind(String paper, String move) {
        OpeningsCabinet x = Check.at(paper);
        Check.moves(x, move);
        return x.passingSquare();
    }

    /**
     * "the passing square is the one that was passed": of both sides, on 6, 7 and 8 ranks, with a rival on either
     * side.
     */
    private static void passingSquaresBehindSteps() {
        for (int ranks = 6; ranks <= 8; ranks++) {
            String far = "8/".repeat(ranks - 6);
            for (String rank : new String[] {"3p4", "5p2", "3p1p2"}) {
                String paper = "k7/8/" + far + rank + "/8/4P3/K7 w - -";
                Check.same("e4 in " + paper, passingBehind(paper, "e4"), 2 * 8 + 4);
            }
            for (String rank : new String[] {"3P4", "5P2", "3P1P2"}) {
                String paper = "k7/4p3/8/" + rank + "/" + far + "8/K7 b - -";
                Check.same("the first step in " + paper, passingBehind(paper, "e" + (ranks - 3)), (ranks - 3) * 8 + 4);
            }
        }
    }

    /** "otherwise it is NONE": no first step, no pawn beside, one of the own side, on another rank, another piece. */
    private static void noPassingSquares() {
        for (char piece : "QRBNPqrbn".toCharArray()) {
            String paper = "1k6/8/8/8/3" + piece + "4/8/4P3/7K w - -";
            Check.same("beside stands " + piece, passingBehind(paper, "e4"), NONE);
        }
        Check.same("beside stands p", passingBehind("1k6/8/8/8/3p4/8/4P3/7K w - -", "e4"), 20);
        Check.same("two files away", passingBehind("k7/8/8/8/2p3p1/8/4P3/7K w - -", "e4"), NONE);
        Check.same("a rank above", passingBehind("k7/8/8/3p1p2/8/8/4P3/7K w - -", "e4"), NONE);
        Check.same("a rank below", passingBehind("k7/8/8/8/8/3p1p2/4P3/7K w - -", "e4"), NONE);
        Check.same("in front", passingBehind("k7/8/8/4p3/8/8/4P3/7K w - -", "e4"), NONE);
        Check.same("one step", passingBehind("k7/8/8/8/3p4/4P3/8/7K w - -", "e4"), NONE);
        Check.same("one step from the second rank", passingBehind("k7/8/8/8/8/3p4/4P3/7K w - -", "e3"), NONE);
        Check.same("a taking", passingBehind("k7/8/8/3rp3/4P3/8/8/7K w - -", "exd5"), NONE);
        Check.same("a rook", passingBehind("k7/8/8/8/3p4/8/4R3/7K w - -", "Re4"), NONE);
        Check.same("a king that castles", passingBehind("k7/8/8/8/8/8/8/4K2R w K -", "O-O"), NONE);
        Check.same("one step of Black", passingBehind("k7/8/4p3/3P4/8/8/8/7K b - -", "e5"), NONE);
        Check.same("no pawn beside Black's", passingBehind("k7/4p3/8/2P3P1/8/8/8/7K b - -", "e5"), NONE);
        Check.same("an own pawn beside Black's", passingBehind("k7/4p3/8/3p4/8/8/8/7K b - -", "e5"), NONE);
    }

    /** "a neighbouring file": a pawn at the other edge is on none, though its square has the next number. */
    private static void passingSquaresAtTheEdges() {
        Check.same("a4, b4", passingBehind("k7/8/8/8/1p6/8/P7/7K w - -", "a4"), 16);
        Check.same("h4, g4", passingBehind("k7/8/8/8/6p1/8/7P/K7 w - -", "h4"), 23);
        Check.same("a4, h3", passingBehind("k7/8/8/8/8/7p/P7/3K4 w - -", "a4"), NONE);
        Check.same("a4, h4", passingBehind("k7/8/8/8/7p/8/P7/3K4 w - -", "a4"), NONE);
        Check.same("h4, a5", passingBehind("k7/8/8/p7/8/8/7P/3K4 w - -", "h4"), NONE);
        Check.same("h4, a4", passingBehind("k7/8/8/8/p7/8/7P/3K4 w - -", "h4"), NONE);
        Check.same("a5, b5", passingBehind("4k3/p7/8/1P6/8/8/8/7K b - -", "a5"), 40);
        Check.same("h5, g5", passingBehind("4k3/7p/8/6P1/8/8/8/7K b - -", "h5"), 47);
        Check.same("a5, h4", passingBehind("4k3/p7/8/8/7P/8/8/4K3 b - -", "a5"), NONE);
        Check.same("h5, a6", passingBehind("4k3/7p/P7/8/8/8/8/4K3 b - -", "h5"), NONE);
        Check.same("on four files: d4, a5", passingBehind("k3/4/4/p3/4/4/3P/1K2 w - -", "d4"), NONE);
        Check.same("on four files: a4, d3", passingBehind("k3/4/4/4/4/3p/P3/1K2 w - -", "a4"), NONE);
    }

    /** The passing square is that of the last move alone, and the one before is there again when it is taken back. */
    private static void passingSquaresAreForOneMove() {
        OpeningsCabinet x = Check.at("4k3/3p1p2/8/4P3/8/8/8/4K3 b - -");
        Check.moves(x, "d5");
        Check.same("behind d5", x.passingSquare(), 43);
        Check.moves(x, "Kd1");
        Check.same("behind another move", x.passingSquare(), NONE);
        Check.moves(x, "f5");
        Check.same("behind f5", x.passingSquare(), 45);
        Check.same("just the last one", goals(x, 36, 8), "e6 f6");
        x.takeBack();
        Check.same("f5 taken back", x.passingSquare(), NONE);
        x.takeBack();
        Check.same("Kd1 taken back", x.passingSquare(), 43);
        Check.same("the pawn can take again", goals(x, 36, 8), "d6 e6");
        x.takeBack();
        Check.same("all taken back", x.passingSquare(), NONE);
        OpeningsCabinet y = Check.at("4k3/8/8/2pP4/8/8/8/4K3 w - c6");
        Check.moves(y, "Ke2");
        y.takeBack();
        Check.same("that of a paper, taken back to", y.passingSquare(), 42);
    }

    /** "then the pawn of the other side that made the first step is taken", and no other pawn. */
    private static void takingInPassing() {
        taken("4k3/8/8/2PpP3/8/8/8/4K3 w - d6", "cxd6", "4k3/8/3P4/4P3/8/8/8/4K3 b - -");
        taken("4k3/8/8/2PpP3/8/8/8/4K3 w - d6", "exd6", "4k3/8/3P4/2P5/8/8/8/4K3 b - -");
        taken("4k3/8/8/3pPp2/8/8/8/4K3 w - d6", "exd6", "4k3/8/3P4/5p2/8/8/8/4K3 b - -");
        taken("4k3/8/8/3pPp2/8/8/8/4K3 w - f6", "exf6", "4k3/8/5P2/3p4/8/8/8/4K3 b - -");
        taken("4k3/8/8/8/pPp5/8/8/4K3 b - b3", "axb3", "4k3/8/8/8/2p5/1p6/8/4K3 w - -");
        taken("4k3/8/8/8/pPp5/8/8/4K3 b - b3", "cxb3", "4k3/8/8/8/p7/1p6/8/4K3 w - -");
        taken("4k3/8/8/8/Pp6/8/8/4K3 b - a3", "bxa3", "4k3/8/8/8/8/p7/8/4K3 w - -");
        taken("4k3/8/8/6Pp/8/8/8/4K3 w - h6", "gxh6", "4k3/8/7P/8/8/8/8/4K3 b - -");
        taken("k3/4/4/1pP1/4/3K w - b4", "cxb4", "k3/4/1P2/4/4/3K b - -");
        taken("k3/4/1Pp1/4/4/3K b - b3", "cxb3", "k3/4/4/1p2/4/3K w - -");
    }

    private static void taken(String paper, String move, String due) {
        OpeningsCabinet x = Check.at(paper);
        Check.moves(x, move);
        Check.same(move + " in " + paper, Check.paper(x), due);
        x.takeBack();
        Check.same(move + " taken back", Check.paper(x), paper);
    }

    /** Another piece that goes to the passing square takes nothing. */
    private static void movesToThePassingSquare() {
        taken("4k3/8/8/3pP3/4N3/8/8/4K3 w - d6", "Nd6+", "4k3/8/3N4/3pP3/8/8/8/4K3 b - -");
        taken("4k3/1B6/8/2pP4/8/8/8/4K3 w - c6", "Bc6+", "4k3/8/2B5/2pP4/8/8/8/4K3 b - -");
        taken("4k3/8/R7/2pP4/8/8/8/4K3 w - c6", "Rc6", "4k3/8/2R5/2pP4/8/8/8/4K3 b - -");
        taken("4k3/8/1K6/2pP4/8/8/8/8 w - c6", "Kc6", "4k3/8/2K5/2pP4/8/8/8/8 b - -");
        String two = "4k3/8/8/1PpP4/8/8/8/4K3 w - c6";
        Check.same("one pawn beside, another one in front", goals(Check.at(two), 33, 8), "b6 c6");
    }

    /** Which castlings there are: s short, l long. */
    private static String castlings(OpeningsCabinet x, int ranks) {
        int home = x.isWhiteToMove() ? 0 : (ranks - 1) * 8;
        StringBuilder found = new StringBuilder();
        int number = x.moveCount();
        for (int move = 0; move < number; move++) {
            if (x.moveFrom(move) == home + 4 && x.pieceAt(home + 4) % 6 == 1) {
                found.append(x.moveTo(move) == home + 2 ? "l" : "").append(x.moveTo(move) == home + 6 ? "s" : "");
            }
        }
        return found.toString();
    }

    /** A cabinet with kings and rooks at home, and one more piece. */
    private static OpeningsCabinet atHome(int ranks, boolean isWhite, int rights, int square, int piece) {
        OpeningsCabinet x = Check.placed("r3k2r" + "/8".repeat(ranks - 2) + "/R3K2R", true, 0);
        if (piece != 0) {
            x.put(square, piece);
        }
        x.setSide(isWhite, rights);
        return x;
    }

    /** "with the short right", "with the long right": of all sums of rights those of the side to move count. */
    private static void rightsToCastle() {
        for (int ranks = 4; ranks <= 8; ranks++) {
            for (int rights = 0; rights <= 15; rights++) {
                String ofWhite = ((rights & 2) != 0 ? "l" : "") + ((rights & 1) != 0 ? "s" : "");
                String ofBlack = ((rights & 8) != 0 ? "l" : "") + ((rights & 4) != 0 ? "s" : "");
                String what = " with the rights " + rights + " on " + ranks + " ranks";
                Check.same("White" + what, castlings(atHome(ranks, true, rights, 0, 0), ranks), ofWhite);
                Check.same("Black" + what, castlings(atHome(ranks, false, rights, 0, 0), ranks), ofBlack);
            }
        }
    }

    /** "if the squares of the files f and g ... are empty", "b, c and d": one piece of either side on each of them. */
    private static void castlingPastPieces() {
        for (int ranks = 4; ranks <= 8; ranks++) {
            for (int file : new int[] {1, 2, 3, 5, 6}) {
                // Knights on the first rank attack nothing of it.
                for (int piece = 5; piece <= 11; piece += 6) {
                    String due = file < 4 ? "s" : "l";
                    int last = (ranks - 1) * 8;
                    String what = piece + " on the file " + file + " of " + ranks + " ranks";
                    Check.same("White, " + what, castlings(atHome(ranks, true, 15, file, piece), ranks), due);
                    Check.same("Black, " + what, castlings(atHome(ranks, false, 15, last + file, piece), ranks), due);
                }
            }
        }
    }

    /** "no piece of the other side attacks the squares of the king, of the file f and of the file g", "d and ... c". */
    private static void castlingPastAttacks() {
        for (int ranks = 4; ranks <= 8; ranks++) {
            for (int file = 0; file < 8; file++) {
                attackedHome(ranks, file, 3, 2, file == 2 || file == 3 || file == 4, file >= 4 && file <= 6);
                boolean isLong = isOneOf(file - 1, 2, 3, 4) || isOneOf(file + 1, 2, 3, 4);
                boolean isShort = isOneOf(file - 1, 4, 5, 6) || isOneOf(file + 1, 4, 5, 6);
                attackedHome(ranks, file, 6, 1, isLong, isShort);
                attackedHome(ranks, file, 5, 2, isLong, isShort);
                isLong = isOneOf(file - 2, 2, 3, 4) || isOneOf(file + 2, 2, 3, 4);
                isShort = isOneOf(file - 2, 4, 5, 6) || isOneOf(file + 2, 4, 5, 6);
                attackedHome(ranks, file, 5, 1, isLong, isShort);
            }
        }
        // A king attacks too.
        Check.same("a king beside the file g", castlings(Check.at("8/8/8/8/8/8/6k1/R3K2R w KQ -"), 8), "l");
        Check.same("a king beside the file c", castlings(Check.at("8/8/8/8/8/8/1k6/R3K2R w KQ -"), 8), "s");
        // What is pinned attacks all the same, and pieces between hide the squares.
        Check.same("a pinned rook", castlings(Check.at("8/8/8/k4r1R/8/8/8/4K2R w K -"), 8), "");
        Check.same("an own pawn between", castlings(Check.at("4kr2/8/8/8/8/8/5P2/R3K2R w KQ -"), 8), "ls");
        Check.same("a rival between", castlings(Check.at("4kr2/5n2/8/8/8/8/8/R3K2R w KQ -"), 8), "ls");
    }

    private static boolean isOneOf(int file, int one, int two, int three) {
        return file == one || file == two || file == three;
    }

    /** A rival piece so many ranks in front of the first rank: may the sides castle past what it attacks? */
    private static void attackedHome(int ranks, int file, int kind, int distance, boolean isLong, boolean isShort) {
        String due = (isLong ? "" : "l") + (isShort ? "" : "s");
        String what = " past " + kind + " on the file " + file + ", " + distance + " ranks away, on " + ranks
                + " ranks";
        OpeningsCabinet x = atHome(ranks, true, 3, distance * 8 + file, kind + 6);
        Check.same("White" + what, castlings(x, ranks), due);
        OpeningsCabinet y = atHome(ranks, false, 12, (ranks - 1 - distance) * 8 + file, kind);
        Check.same("Black" + what, castlings(y, ranks), due);
    }

    /**
     * "the king goes to the file g, the rook from the file h to the file f", "... c, ... from the file a to the file
     * d".
     */
    private static void castledPieces() {
        for (int ranks = 4; ranks <= 8; ranks++) {
            String middle = "/8".repeat(ranks - 2) + "/";
            String home = "r3k2r" + middle + "R3K2R ";
            taken(home + "w KQkq -", "O-O", "r3k2r" + middle + "R4RK1 b kq -");
            taken(home + "w KQkq -", "O-O-O", "r3k2r" + middle + "2KR3R b kq -");
            taken(home + "b KQkq -", "O-O", "r4rk1" + middle + "R3K2R w KQ -");
            taken(home + "b KQkq -", "O-O-O", "2kr3r" + middle + "R3K2R w KQ -");
        }
    }

    private static void lost(String paper, String move, int rights) {
        OpeningsCabinet x = Check.at(paper);
        Check.moves(x, move);
        Check.same("rights behind " + move + " in " + paper, x.rights(), rights);
    }

    /** "A side loses both its rights when its king moves; ... when a piece goes from or to the square of its rook". */
    private static void lostRights() {
        for (int ranks = 5; ranks <= 8; ranks++) {
            String middle = "/8".repeat(ranks - 2) + "/";
            String home = "r3k2r" + middle + "R3K2R ";
            for (String move : new String[] {"Kd1", "Kf1", "Kd2", "Ke2", "Kf2", "O-O", "O-O-O"}) {
                lost(home + "w KQkq -", move, 12);
            }
            int second = ranks - 1;
            for (String move : new String[] {"Kd" + ranks, "Kf" + ranks, "Kd" + second, "Ke" + second, "O-O-O", "O-O"}) {
                lost(home + "b KQkq -", move, 3);
            }
            for (String move : new String[] {"Rb1", "Rc1", "Rd1", "Ra2", "Ra" + (ranks - 1)}) {
                lost(home + "w KQkq -", move, 13);
            }
            for (String move : new String[] {"Rf1", "Rg1", "Rh2", "Rh" + (ranks - 1)}) {
                lost(home + "w KQkq -", move, 14);
            }
            lost(home + "b KQkq -", "Ra2", 7);
            lost(home + "b KQkq -", "Rb" + ranks, 7);
            lost(home + "b KQkq -", "Rh2", 11);
            lost(home + "b KQkq -", "Rg" + ranks, 11);
            // A rook that takes the rook opposite: both sides lose a right.
            lost(home + "w KQkq -", "Rxa" + ranks + "+", 5);
            lost(home + "w KQkq -", "Rxh" + ranks + "+", 10);
            lost(home + "b KQkq -", "Rxa1+", 5);
            lost(home + "b KQkq -", "Rxh1+", 10);
        }
        // By other pieces: a knight, a bishop, a queen, a pawn that becomes another piece.
        lost("r3k2r/8/1N6/8/8/8/8/R3K2R w KQkq -", "Nxa8", 7);
        lost("r3k2r/8/8/8/8/6n1/8/R3K2R b KQkq -", "Nxh1", 14);
        lost("r3k2r/8/8/8/4b3/8/8/R3K2R b KQkq -", "Bxh1", 14);
        lost("r3k2r/8/8/8/4B3/8/8/R3K2R w KQkq -", "Bxa8", 7);
        lost("r3k2r/6P1/8/8/8/8/8/R3K2R w KQkq -", "gxh8=N", 11);
        lost("r3k2r/8/8/8/8/8/1p6/R3K2R b KQkq -", "bxa1=B", 13);
    }

    /** No other move loses a right, and rights that are lost stay lost. */
    private static void keptRights() {
        lost("r3k2r/p6p/8/8/8/8/P6P/R3K2R w KQkq -", "a3", 15);
        lost("r3k2r/p6p/8/8/8/8/P6P/R3K2R w KQkq -", "h4", 15);
        lost("r3k2r/p6p/8/8/8/8/P6P/R3K2R b KQkq -", "h6", 15);
        lost("r2qk2r/8/8/8/8/8/8/R2QK2R w KQkq -", "Qd2", 15);
        lost("rn2k2r/8/8/8/8/8/8/RN2K2R w KQkq -", "Na3", 15);
        lost("r3k1nr/8/8/8/8/8/8/R3K1NR b KQkq -", "Nh6", 15);
        // Other rooks, and pieces on the corners of a side without the right.
        lost("r3k2r/8/8/8/8/3R4/8/R3K2R w KQ -", "Rd4", 3);
        lost("r3k2r/8/8/8/8/8/8/R3K2N w Qkq -", "Ng3", 14);
        lost("r3k2n/8/8/8/8/8/8/R3K2R b KQq -", "Ng6", 11);
        OpeningsCabinet x = Check.at("r3k2r/8/8/8/8/8/8/R3K2R w KQkq -");
        Check.moves(x, "Rb1 Rb8 Ra1 Ra8");
        Check.same("back at home", x.rights(), 5);
        Check.moves(x, "Ke2 Ke7 Ke1 Ke8");
        Check.same("the kings back at home", x.rights(), 0);
        for (int i = 0; i < 8; i++) {
            x.takeBack();
        }
        Check.same("all taken back", x.rights(), 15);
    }

    /** "by the square from which the piece goes ..., then by the square to which it goes, then in the order ..." */
    private static void numbersInOrder() {
        String[] papers = {
            "r3k2r/1P4P1/8/2pP4/8/8/8/R3K2R w KQkq c6",
            "r3k2r/8/8/8/2pP4/8/1p4p1/R3K2R b KQkq d3",
            "R6R/3Q4/1Q4Q1/4Q3/2Q4Q/Q4Q2/pp1Q4/kBNN1KB1 w - -",
        };
        for (String paper : papers) {
            OpeningsCabinet x = Check.at(paper);
            int number = x.moveCount();
            int before = -1;
            for (int move = 0; move < Math.min(number, 120); move++) {
                int place = x.moveFrom(move) * 1000 + x.moveTo(move) * 10 + x.moveBecomes(move);
                Check.same("move " + move + " of " + paper + " stands behind the one before", place > before, true);
                before = place;
            }
        }
        // A castling stands among the moves of the king.
        String home = "r3k2r/8/8/8/8/8/8/R3K2R ";
        Check.same("moves of the king", goals(Check.at(home + "w KQkq -"), 4, 8), "c1 d1 f1 g1 d2 e2 f2");
        Check.same("moves of Black's king", goals(Check.at(home + "b KQkq -"), 60, 8), "d7 e7 f7 c8 d8 f8 g8");
    }

    /** No move at all, one, and the most that are known. */
    private static void countsOfMoves() {
        Check.same("mate", Check.at("k7/1Q6/1K6/8/8/8/8/8 b - -").moveCount(), 0);
        Check.same("stalemate", Check.at("k7/2Q5/1K6/8/8/8/8/8 b - -").moveCount(), 0);
        Check.same("one move", Check.at("k7/8/1K6/8/8/8/8/7R b - -").moveCount(), 1);
        OpeningsCabinet x = Check.at("R6R/3Q4/1Q4Q1/4Q3/2Q4Q/Q4Q2/pp1Q4/kBNN1KB1 w - -");
        Check.same("218 moves", x.moveCount(), 218);
        Check.same("the last one begins on h8", x.moveFrom(217), 63);
        Check.refuses("the 219th", INDEX, () -> x.moveFrom(218));
        OpeningsCabinet y = Check.at("8/8/8/3Q4/8/8/7k/K7 w - -");
        Check.same("27 moves of a queen", y.moveCount(), 27 + 3);
    }

    /** "a move ... that does not exist": ahead of the first one, and behind the last one. */
    private static void numbersOfMoves() {
        String[] papers = {"k7/1Q6/1K6/8/8/8/8/8 b - -", "k7/8/1K6/8/8/8/8/7R b - -", "7k/8/8/8/8/8/P7/K7 w - -"};
        for (String paper : papers) {
            OpeningsCabinet x = Check.at(paper);
            int count = x.moveCount();
            for (int move : new int[] {Integer.MIN_VALUE, -1, count, count + 1, Integer.MAX_VALUE}) {
                String what = " of the move " + move + " of " + paper;
                Check.refuses("moveFrom" + what, INDEX, () -> x.moveFrom(move));
                Check.refuses("moveTo" + what, INDEX, () -> x.moveTo(move));
                Check.refuses("moveBecomes" + what, INDEX, () -> x.moveBecomes(move));
                Check.refuses("writeMove" + what, INDEX, () -> x.writeMove(move));
                Check.refuses("play" + what, INDEX, () -> x.play(move));
            }
            Check.same("no move was made", x.madeCount(), 0);
            if (count > 0) {
                Check.same("the last move begins somewhere", x.moveFrom(count - 1) >= 0, true);
                Check.same("it can be made", x.play(count - 1), OpeningsCabinet.GOING);
            }
        }
    }

    /** "Throws IllegalStateException if the first position is not proper": no moves are asked or made then. */
    private static void notProper() {
        OpeningsCabinet x = Check.placed("4k3/8/8/8/8/8/8/4K3", true, 1);
        for (int move : new int[] {-1, 0, 4, 99}) {
            Check.refuses("moveFrom", STATE, () -> x.moveFrom(move));
            Check.refuses("moveTo", STATE, () -> x.moveTo(move));
            Check.refuses("moveBecomes", STATE, () -> x.moveBecomes(move));
            Check.refuses("writeMove", STATE, () -> x.writeMove(move));
            Check.refuses("play", STATE, () -> x.play(move));
        }
        Check.refuses("moveCount", STATE, x::moveCount);
        Check.same("nothing was made", x.madeCount(), 0);
        x.setSide(true, 0);
        Check.same("moves when it is proper", x.moveCount(), 5);
    }
}
