/** The bounds of section 4 and of promises 23 and 62: how much of a name is told, and the signs at the end. */
public final class BoundsLettersTest {
    public static void main(String[] args) {
        pawns();
        filesTold();
        ranksTold();
        bothTold();
        nothingTold();
        edgesOfNames();
        castlings();
        signs();
        signsOfMate();
        lengths();
        lettersThatAreRead();
        Check.end("BoundsLettersTest");
    }

    /** The letters of the moves to a square, in the order of their numbers. */
    private static String to(String paper, String square) {
        OpeningsCabinet x = Check.at(paper);
        int files = Check.files(paper);
        StringBuilder found = new StringBuilder();
        int number = x.moveCount();
        for (int move = 0; move < number; move++) {
            if (x.moveTo(move) == Check.square(square, files)) {
                found.append(found.length() > 0 ? " " : "").append(Check.letters(x, move));
            }
        }
        Check.same("errors in " + paper, x.errors(), 0);
        return found.toString();
    }

    private static void told(String paper, String square, String due) {
        Check.same("moves to " + square + " in " + paper, to(paper, square), due);
    }

    /**
     * "if it takes, the name of the file from which it goes and x; ... if it becomes another piece, = and the letter"
     */
    private static void pawns() {
        told("k7/8/8/3p4/8/2P1P3/8/K7 w - -", "c4", "c4");
        told("k7/8/8/3p4/2P1P3/8/8/K7 w - -", "d5", "cxd5 exd5");
        told("k7/8/8/8/3Pp3/8/8/K7 b - d3", "d3", "exd3");
        told("k7/8/8/8/2pPp3/8/8/K7 b - d3", "d3", "cxd3 exd3");
        told("7k/8/8/8/2pPp3/8/8/K7 b - d3", "c3", "c3");
        told("8/2P4k/8/8/8/8/8/K7 w - -", "c8", "c8=Q c8=R c8=B c8=N");
        told("3b4/2P4k/8/8/8/8/8/K7 w - -", "d8", "cxd8=Q cxd8=R cxd8=B cxd8=N");
        told("3b4/2P1P2k/8/8/8/8/8/K7 w - -", "d8", "cxd8=Q cxd8=R cxd8=B cxd8=N exd8=Q exd8=R exd8=B exd8=N");
        told("7k/8/8/8/8/7K/2p5/3N4 b - -", "d1", "cxd1=Q cxd1=R cxd1=B cxd1=N");
        // A piece that goes where a pawn goes is told by its own letter alone.
        told("7k/8/8/8/8/2P5/8/2R1K3 w - -", "c4", "c4");
        told("7k/8/8/3p4/2P5/8/3R4/3K4 w - -", "d5", "Rxd5 cxd5");
        told("k7/8/8/8/8/8/2P5/K1N5 w - -", "b3", "Nb3");
    }

    /** "the name of the file from which it goes, if none of those moves begins on this file". */
    private static void filesTold() {
        told("6k1/8/8/8/8/5K2/8/R6R w - -", "d1", "Rad1 Rhd1");
        told("6k1/8/8/8/8/5N2/8/1N5K w - -", "d2", "Nbd2 Nfd2");
        told("6k1/8/8/8/8/7K/8/B5B1 w - -", "d4", "Bad4 Bgd4");
        told("5k2/8/8/8/8/7K/8/Q5Q1 w - -", "d4", "Qad4 Qgd4");
        told("7K/6r1/8/8/8/8/r7/5k2 b - -", "g2", "Kg2 Rag2 Rgg2");
        told("k7/8/8/3p4/8/2N1N3/8/K7 w - -", "d5", "Ncxd5 Nexd5");
        told("6k1/8/8/8/N3N3/8/8/K7 w - -", "c3", "Nac3 Nec3");
    }

    /** "otherwise the name of the rank from which it goes, if none of those begins on this rank". */
    private static void ranksTold() {
        told("6k1/R7/8/8/8/5K2/8/R7 w - -", "a4", "R1a4 R7a4");
        told("7k/8/8/8/N7/8/N7/K7 w - -", "c3", "N2c3 N4c3");
        told("6k1/8/8/2B5/8/2B5/8/7K w - -", "d4", "B3d4 B5d4");
        told("1k6/8/8/3q4/8/8/7K/3q4 b - -", "d3", "Q1d3 Q5d3");
        told("7k/8/8/8/N7/2p5/N7/K7 w - -", "c3", "N2xc3 N4xc3");
        // Of three on one file each is told by its rank.
        told("6k1/Q7/8/8/Q7/8/8/Q6K w - -", "d4", "Q1d4 Q4d4 Q7d4");
    }

    /** "otherwise the names of both, the file first". */
    private static void bothTold() {
        told("7k/8/1N3N2/8/1N6/8/8/K7 w - -", "d5", "N4d5 Nb6d5 Nfd5");
        told("1k6/8/8/8/8/Q7/8/Q1Q4K w - -", "c3", "Qa1c3 Qcc3 Q3c3");
        told("6k1/8/8/2B5/8/2B1B3/8/7K w - -", "d4", "Bc3d4 Bed4 B5d4");
        told("7k/8/8/8/8/Q1p5/8/Q1Q4K w - -", "c3", "Qa1xc3+ Qcxc3+ Q3xc3+");
        // Four knights: each shares its file with one and its rank with another one.
        told("7k/8/1N3N2/8/1N3N2/8/8/K7 w - -", "d5", "Nb4d5 Nf4d5 Nb6d5 Nf6d5");
        // Of three one shares its file and its rank, one neither, one its file alone.
        told("7k/8/1N6/8/1N3N2/8/8/K7 w - -", "d5", "Nb4d5 Nfd5 N6d5");
    }

    /** "if there are other moves of pieces of the same kind and side to the same square": not of others. */
    private static void nothingTold() {
        // A piece that is pinned has no move.
        told("4r2k/8/8/8/8/2N1N3/8/4K3 w - -", "d5", "Nd5");
        told("4r2k/8/8/8/8/2N1N3/8/K7 w - -", "d5", "Ncd5 Ned5");
        // One that does not see the square.
        told("6k1/8/8/8/8/5K2/8/R1B4R w - -", "e1", "Re1");
        told("6k1/8/8/8/8/5K2/8/R2B3R w - -", "b1", "Rb1");
        // Kinds that are others: a queen, a rook and a bishop.
        told("1k6/8/8/8/R7/8/8/B2Q3K w - -", "d4", "Bd4 Qd4 Rd4");
        // Pieces of the other side.
        told("k7/8/1n3n2/8/1N6/8/8/K7 w - -", "d5", "Nd5");
        told("k7/8/1n6/8/1N3N2/8/8/K7 b - -", "d5", "Nd5");
        // A king is alone.
        told("k7/8/8/8/8/8/8/4K3 w - -", "d1", "Kd1");
        told("4k3/8/8/8/8/8/8/4K2R w K -", "g1", "O-O Rg1");
        told("4k3/8/8/8/8/8/8/R3K3 w Q -", "c1", "Rc1 O-O-O");
        // In check the knight that does not help has no move.
        told("4r2k/8/8/2N5/8/8/8/4K1N1 w - -", "e4", "Ne4");
        told("4r2k/8/8/2N5/8/8/8/4K1N1 w - -", "e2", "Ne2");
        told("4r2k/8/8/8/5N2/8/8/4K1N1 w - -", "e2", "Nge2 Nfe2");
    }

    /** The first and the last file and rank, on the greatest board. */
    private static void edgesOfNames() {
        told("R7/7k/8/8/8/6K1/8/R7 w - -", "a2", "R1a2 R8a2");
        told("7k/5K2/8/8/8/8/8/8 b - -", "h7", "Kh7");
        told("7R/8/k7/8/8/8/8/K6R w - -", "h4", "R1h4 R8h4");
        told("8/2k5/8/8/8/8/4K3/R6R w - -", "h8", "Rh8");
        told("8/2k5/8/8/8/8/4K3/R6R w - -", "a8", "Ra8");
        told("1k2/4/4/Q2K w - -", "a2", "Qa2");
        told("1k2/4/4/Q2K w - -", "d4", "Qd4+");
    }

    /** "O-O for castling short, O-O-O for castling long", with the sign of the position behind it. */
    private static void castlings() {
        String home = "r3k2r/8/8/8/8/8/8/R3K2R ";
        told(home + "w KQkq -", "g1", "O-O Rg1");
        told(home + "w KQkq -", "c1", "Rc1 O-O-O");
        told(home + "b KQkq -", "g8", "O-O Rg8");
        told(home + "b KQkq -", "c8", "Rc8 O-O-O");
        told("5k2/8/8/8/8/8/8/4K2R w K -", "g1", "O-O+ Rg1");
        told("3k4/8/8/8/8/8/8/R3K3 w Q -", "c1", "Rc1 O-O-O+");
        told("4rkr1/4p1p1/8/8/8/8/8/4K2R w K -", "g1", "O-O# Rg1");
        told("2rkr3/2p1p3/8/8/8/8/8/R3K3 w Q -", "c1", "Rc1 O-O-O#");
        told("4k2r/8/8/8/8/8/8/5K2 b k -", "g8", "O-O+ Rg8");
        told("r3k2r/8/8/R3K2R w KQkq -", "g1", "O-O Rg1");
    }

    /** "+ if the side to move is in check there": given by the piece itself, by another one, by both. */
    private static void signs() {
        told("4k3/8/8/8/8/8/8/3RK3 w - -", "d8", "Rd8+");
        told("4k3/8/8/8/8/8/8/3RK3 w - -", "d7", "Rd7");
        told("4k3/8/8/8/8/8/4K3/4R3 w - -", "d2", "Kd2+");
        told("4k3/8/8/8/8/8/4K3/4R3 w - -", "e3", "Ke3");
        told("4k3/8/8/8/4N3/8/8/K3R3 w - -", "f6", "Nf6+");
        told("4k3/8/8/8/4N3/8/8/K3R3 w - -", "c3", "Nc3+");
        told("8/8/8/R2pP2k/8/8/8/K7 w - d6", "d6", "exd6+");
        told("8/8/8/R2pP2k/8/8/8/K7 w - d6", "e6", "e6");
        told("4k3/1P6/8/8/8/8/8/K7 w - -", "b8", "b8=Q+ b8=R+ b8=B b8=N");
        told("8/1P1k4/8/8/8/8/8/K7 w - -", "b8", "b8=Q b8=R b8=B b8=N+");
        // The side that moves is not in check behind its own move, and a check that it was in is over.
        told("4k3/8/8/8/8/8/4r3/4K3 w - -", "e2", "Kxe2");
        told("7k/8/8/8/8/8/2p5/4K3 b - -", "c1", "c1=Q+ c1=R+ c1=B c1=N");
    }

    /** "# if the position behind the move is MATE", and no sign if it is STALE. */
    private static void signsOfMate() {
        told("k7/8/1K6/8/8/8/8/7R w - -", "h8", "Rh8#");
        told("k7/8/1K6/8/8/8/8/7R w - -", "h7", "Rh7");
        told("k7/8/2K5/8/8/8/8/1Q6 w - -", "b7", "Qb7#");
        told("k7/8/2K5/8/8/8/8/1Q6 w - -", "b6", "Qb6 Kb6");
        told("6k1/5ppp/8/8/8/8/8/K3R3 w - -", "e8", "Re8#");
        told("6k1/5pp1/8/8/8/8/8/K3R3 w - -", "e8", "Re8+");
        told("6rk/6pp/8/6N1/8/8/8/K7 w - -", "f7", "Nf7#");
        told("8/8/8/8/8/2k5/q7/K7 w - -", "a2", "Kxa2");
        told("1r5k/P5pp/8/8/8/8/8/K7 w - -", "b8", "axb8=Q# axb8=R# axb8=B axb8=N");
    }

    /** The shortest letters and the longest. */
    private static void lengths() {
        lengthOf("7k/8/8/8/8/8/P7/K7 w - -", "a3", "a3");
        lengthOf("7k/8/8/8/8/Q1p5/8/Q1Q4K w - -", "c3", "Qa1xc3+");
        lengthOf("1r5k/P5pp/8/8/8/8/8/K7 w - -", "b8", "axb8=Q#");
    }

    private static void lengthOf(String paper, String square, String letters) {
        OpeningsCabinet x = Check.at(paper);
        int move = 0;
        while (x.moveTo(move) != Check.square(square, 8)) {
            move++;
        }
        Check.same("length of " + letters, x.writeMove(move), letters.length());
        Check.same("its last byte", x.outputByte(letters.length() - 1), (int) letters.charAt(letters.length() - 1));
        Check.refuses("the byte behind it", IndexOutOfBoundsException.class, () -> x.outputByte(letters.length()));
    }

    /**
     * Promise 62: "the letters of each move of the present position, read, are this move", in positions of many
     * kinds.
     */
    private static void lettersThatAreRead() {
        String[] papers = {
            "7k/8/1N3N2/8/1N3N2/8/8/K7 w - -", "7k/8/8/8/8/Q1p5/8/Q1Q4K w - -",
            "r3k2r/1P4P1/8/2pP4/8/8/8/R3K2R w KQkq c6", "R6R/3Q4/1Q4Q1/4Q3/2Q4Q/Q4Q2/pp1Q4/kBNN1KB1 w - -",
            "k7/1Q6/1K6/8/8/8/8/8 b - -", "k3/4/4/3K w - -",
        };
        for (String paper : papers) {
            OpeningsCabinet x = Check.at(paper);
            Check.same("errors in " + paper, x.errors(), 0);
            int number = Math.min(x.moveCount(), 40);
            for (int move = 0; move < number; move++) {
                String letters = Check.letters(x, move);
                Check.same("fault of " + letters, Check.isSound(x, letters), true);
            }
        }
    }
}
