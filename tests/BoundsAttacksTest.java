/** The bounds of section 3 and of promises 12 to 14: attacks at the edges, rows that end, checks and pins. */
public final class BoundsAttacksTest {
    private static final Class<IllegalStateException> STATE = IllegalStateException.class;
    private static final Class<IndexOutOfBoundsException> INDEX = IndexOutOfBoundsException.class;

    public static void main(String[] args) {
        attacksOnAllBoards();
        rowsThatEnd();
        attacksOfSides();
        attacksInPassing();
        numbersOfCheckers();
        kingsOfCheckers();
        pinsInAllDirections();
        pinsByOthers();
        pinsWithTwoBetween();
        pinsOfCheckers();
        pinsOfSides();
        pinsAtTheEdges();
        notProper();
        Check.end("BoundsAttacksTest");
    }

    /** Whether a piece attacks a square so many files and ranks away, on an empty board. */
    private static boolean isDue(int piece, int files, int ranks) {
        int acrossFiles = Math.abs(files);
        int acrossRanks = Math.abs(ranks);
        if (acrossFiles + acrossRanks == 0) {
            return false;
        }
        boolean isStraight = acrossFiles == 0 || acrossRanks == 0;
        switch (piece > 6 ? piece - 6 : piece) {
            case 1:
                return acrossFiles <= 1 && acrossRanks <= 1;
            case 2:
                return isStraight || acrossFiles == acrossRanks;
            case 3:
                return isStraight;
            case 4:
                return acrossFiles == acrossRanks;
            case 5:
                return acrossFiles == 1 && acrossRanks == 2 || acrossFiles == 2 && acrossRanks == 1;
            default:
                return acrossFiles == 1 && ranks == (piece == 6 ? 1 : -1);
        }
    }

    /** Each piece on each square of each board: no attack leaves the board or comes in at the other edge. */
    private static void attacksOnAllBoards() {
        for (int files = 4; files <= 8; files++) {
            for (int ranks = 4; ranks <= 8; ranks++) {
                for (int square = 0; square < files * ranks; square++) {
                    OpeningsCabinet x = new OpeningsCabinet();
                    x.newBoard(files, ranks);
                    for (int piece = 1; piece <= 12; piece += piece == 6 ? 6 : 1) {
                        x.put(square, piece);
                        Check.same(piece + " on " + square + " of " + files + " files, " + ranks + " ranks attacks",
                                attacked(x, files, ranks, piece <= 6), attackedDue(piece, square, files, ranks));
                    }
                }
            }
        }
    }

    private static String attacked(OpeningsCabinet x, int files, int ranks, boolean byWhite) {
        StringBuilder found = new StringBuilder();
        for (int square = 0; square < files * ranks; square++) {
            found.append(x.isAttacked(square, byWhite) ? Check.name(square, files) : "");
        }
        return found.toString();
    }

    private static String attackedDue(int piece, int from, int files, int ranks) {
        StringBuilder due = new StringBuilder();
        for (int square = 0; square < files * ranks; square++) {
            boolean isSeen = isDue(piece, square % files - from % files, square / files - from / files);
            due.append(isSeen ? Check.name(square, files) : "");
        }
        return due.toString();
    }

    /** "a sliding piece attacks the squares up to and including the first one that is not empty", of either side. */
    private static void rowsThatEnd() {
        for (int piece = 2; piece <= 4; piece++) {
            for (int from : new int[] {0, 7, 27, 36, 56, 63}) {
                for (int blocker = 0; blocker < 64; blocker++) {
                    if (blocker == from) {
                        continue;
                    }
                    OpeningsCabinet x = new OpeningsCabinet();
                    x.newBoard(8, 8);
                    x.put(from, piece);
                    x.put(blocker, 11);
                    String due = seen(piece, from, blocker);
                    // A piece of the own side ends the row alike; what the knight itself attacks is left out.
                    Check.same(piece + " on " + from + " with a black one on " + blocker, attacked(x, 8, 8, true), due);
                    x.put(from, piece + 6);
                    Check.same(piece + " of Black on " + from + " with a knight on " + blocker,
                            without(attacked(x, 8, 8, false), 11, blocker, due), due);
                }
            }
        }
        OpeningsCabinet y = Check.placed("4k3/8/8/8/8/8/8/RN2K2R", true, 0);
        Check.same("the own piece beside", y.isAttacked(1, true), true);
        Check.same("behind the own piece", y.isAttacked(2, true), false);
        Check.same("what the king hides", Check.placed("4k3/8/8/8/8/8/8/R2kK3", true, 0).isAttacked(4, true), false);
    }

    /** The squares that are due, and of the others those that the knight does not attack. */
    private static String without(String found, int knight, int square, String due) {
        StringBuilder left = new StringBuilder();
        for (int i = 0; i < found.length(); i += 2) {
            String name = found.substring(i, i + 2);
            int to = Check.square(name, 8);
            boolean isOfKnight = isDue(knight, to % 8 - square % 8, to / 8 - square / 8);
            left.append(isOfKnight && !due.contains(name) ? "" : name);
        }
        return left.toString();
    }

    /** The squares on which a sliding piece attacks with one other piece on the board of 64 squares. */
    private static String seen(int piece, int from, int blocker) {
        boolean[] isSeen = new boolean[64];
        for (int files = -1; files <= 1; files++) {
            for (int ranks = -1; ranks <= 1; ranks++) {
                int file = from % 8 + files;
                int rank = from / 8 + ranks;
                boolean isOpen = isDue(piece, files, ranks);
                while (isOpen && file >= 0 && file < 8 && rank >= 0 && rank < 8) {
                    isSeen[rank * 8 + file] = true;
                    isOpen = rank * 8 + file != blocker;
                    file += files;
                    rank += ranks;
                }
            }
        }
        StringBuilder due = new StringBuilder();
        for (int square = 0; square < 64; square++) {
            due.append(isSeen[square] ? Check.name(square, 8) : "");
        }
        return due.toString();
    }

    /** "whether White is asked, otherwise Black": the pieces of the other side count for nothing. */
    private static void attacksOfSides() {
        for (int piece = 1; piece <= 12; piece++) {
            OpeningsCabinet x = new OpeningsCabinet();
            x.newBoard(5, 5);
            x.put(12, piece);
            boolean isAttackedByWhite = !attacked(x, 5, 5, true).isEmpty();
            boolean isAttackedByBlack = !attacked(x, 5, 5, false).isEmpty();
            Check.same("White attacks with " + piece, isAttackedByWhite, piece <= 6);
            Check.same("Black attacks with " + piece, isAttackedByBlack, piece > 6);
        }
        OpeningsCabinet y = new OpeningsCabinet();
        y.newBoard(4, 4);
        Check.same("nothing attacks on an empty board", attacked(y, 4, 4, true) + attacked(y, 4, 4, false), "");
    }

    /** "a pawn attacks in passing nothing": neither the passing square more than else, nor the pawn that went by. */
    private static void attacksInPassing() {
        OpeningsCabinet x = Check.at("k7/8/8/2pP4/8/8/8/7K w - c6");
        Check.same("the passing square is in front of the pawn", x.isAttacked(42, true), true);
        Check.same("the pawn that made the first step", x.isAttacked(34, true), false);
        Check.same("the square behind it", x.isAttacked(50, true), false);
        OpeningsCabinet y = Check.at("k7/8/8/8/6pP/8/8/K7 b - h3");
        Check.same("the pawn on the edge", y.isAttacked(31, false), false);
        Check.same("the passing square on the edge", y.isAttacked(23, false), true);
    }

    /** Promise 13: none, and as many as can attack one king. */
    private static void numbersOfCheckers() {
        checkers("k3/4/4/3K w - -", 0);
        checkers("k3/4/4/r2K w - -", 1);
        checkers("k2r/4/4/r2K w - -", 2);
        checkers("k7/8/8/8/8/8/8/4K3 w - -", 0);
        // Knights all around, and a sliding piece or a pawn in each of the eight directions.
        checkers("1k1q3q/q7/2n1n3/1n3n2/q2K3q/1n3n2/2n1n3/q2q2q1 w - -", 16);
        checkers("1k1r3b/b7/2n1n3/1n3n2/r2K3r/1n3n2/2n1n3/b2r2b1 w - -", 16);
        checkers("1k1r4/8/2n1n3/1nppp3/r2K3r/1n3n2/2n1n3/b2r2b1 w - -", 14);
        // Sliding pieces of the wrong kind, and pawns that look the other way.
        checkers("1k1b3r/r7/8/8/b2K3b/2p1p3/8/r2b2r1 w - -", 0);
    }

    private static void checkers(String paper, int due) {
        Check.same("checkers of " + paper, Check.at(paper).checkers(), due);
    }

    /** "the king of the side to move", and pieces of the other side alone. */
    private static void kingsOfCheckers() {
        Check.same("White's king, White to move", Check.at("k3/4/4/r2K w - -").checkers(), 1);
        Check.same("Black's king, Black to move", Check.at("k2R/4/4/3K b - -").checkers(), 1);
        Check.same("Black's king, and Black's own rook", Check.at("k2r/4/4/1K2 b - -").checkers(), 0);
        Check.same("beside its own queen", Check.at("k3/4/4/2QK w - -").checkers(), 0);
        // A pawn attacks slantingly forward alone.
        Check.same("a pawn in front", Check.at("4k3/8/8/8/8/8/4p3/4K3 w - -").checkers(), 0);
        Check.same("a pawn behind", Check.at("4k3/8/8/8/4K3/3p1p2/8/8 w - -").checkers(), 0);
        Check.same("a pawn of White behind", Check.at("4k3/3P1P2/8/8/8/8/8/4K3 b - -").checkers(), 2);
        Check.same("a pawn of White in front", Check.at("8/3P1P2/4k3/8/8/8/8/4K3 b - -").checkers(), 0);
    }

    /** In each of the eight directions, with the piece beside the king and away from it. */
    private static void pinsInAllDirections() {
        int king = 27;
        int[] files = {1, 1, 0, -1, -1, -1, 0, 1};
        int[] ranks = {0, 1, 1, 1, 0, -1, -1, -1};
        for (int direction = 0; direction < 8; direction++) {
            for (int near = 1; near <= 2; near++) {
                for (int pinner = 8; pinner <= 12; pinner++) {
                    OpeningsCabinet x = new OpeningsCabinet();
                    x.newBoard(8, 8);
                    x.put(king, 1);
                    x.put(63, 7);
                    int step = ranks[direction] * 8 + files[direction];
                    x.put(king + near * step, 5);
                    x.put(king + 3 * step, pinner);
                    boolean isStraight = files[direction] == 0 || ranks[direction] == 0;
                    boolean isDue = pinner == 8 || pinner == 9 && isStraight || pinner == 10 && !isStraight;
                    String what = "direction " + direction + ", " + near + " away from the king, by " + pinner;
                    boolean isProper = x.isProper();
                    Check.same("proper: " + what, isProper, pinner != 12 || king + 3 * step >= 8);
                    if (isProper) {
                        Check.same(what, x.isPinned(king + near * step), isDue);
                        Check.same("the pinning piece: " + what, x.isPinned(king + 3 * step), false);
                        Check.same("the king: " + what, x.isPinned(king), false);
                        Check.same("an empty square: " + what, x.isPinned(king + (3 - near) * step), false);
                    }
                }
            }
        }
    }

    /** "by a queen, a rook or a bishop": no knight, no pawn and no king pins, and no piece of the own side. */
    private static void pinsByOthers() {
        Check.same("a knight", Check.at("k7/8/8/8/8/1n6/1N6/K7 w - -").isPinned(9), false);
        Check.same("a pawn", Check.at("k7/8/8/8/8/2p5/1N6/K7 w - -").isPinned(9), false);
        Check.same("the other king", Check.at("8/8/8/8/8/2k5/1N6/K7 w - -").isPinned(9), false);
        Check.same("an own bishop", Check.at("k7/8/8/8/8/2B5/1N6/K7 w - -").isPinned(9), false);
        Check.same("an own queen", Check.at("k7/8/8/8/8/2Q5/1N6/K7 w - -").isPinned(9), false);
        Check.same("a bishop", Check.at("k7/8/8/8/8/2b5/1N6/K7 w - -").isPinned(9), true);
        for (char piece : "QRBNP".toCharArray()) {
            String paper = "k7/8/8/8/8/2b5/1" + piece + "6/K7 w - -";
            Check.same("pinned is " + piece, Check.at(paper).isPinned(9), true);
        }
        Check.same("nothing", new OpeningsCabinet().isPinned(12), false);
    }

    /** With a second piece of either side between, ahead or behind, none is pinned. */
    private static void pinsWithTwoBetween() {
        for (char piece : "QRBNPqrbnp".toCharArray()) {
            boolean isChecking = piece == 'r' || piece == 'q';
            String near = "4r2k/8/8/8/4" + piece + "3/8/4N3/4K3 w - -";
            Check.same("between: " + near, Check.at(near).isPinned(12), isChecking);
            String far = "4r2k/8/8/4N3/8/4" + piece + "3/8/4K3 w - -";
            Check.same("behind: " + far, Check.at(far).isPinned(36), false);
        }
        // A piece of the other side that hides the king is not pinned by its own.
        for (char piece : "qrbnp".toCharArray()) {
            String paper = "4r2k/8/8/8/4" + piece + "3/8/8/4K3 w - -";
            Check.same("hiding: " + paper, Check.at(paper).isPinned(28), false);
            String slanting = "7k/8/8/8/1b6/2" + piece + "5/8/4K3 w - -";
            Check.same("hiding: " + slanting, Check.at(slanting).isPinned(18), false);
        }
        Check.same("a piece behind the pinning one", Check.at("4r2k/8/4q3/8/8/8/4N3/4K3 w - -").isPinned(12), true);
        Check.same("just it is gone", Check.at("4r2k/8/8/8/8/8/4N3/4K3 w - -").isPinned(12), true);
    }

    /** "that does not attack it now": a piece that gives check pins nothing by it, but another one may. */
    private static void pinsOfCheckers() {
        // The rook on e8 gives check; nothing else stands behind the bishop on d2.
        Check.same("beside the check", Check.at("4r2k/8/8/8/8/8/3B4/4K3 w - -").isPinned(11), false);
        Check.same("ahead of the check", Check.at("4r2k/8/8/8/8/8/8/3BK3 w - -").isPinned(3), false);
        Check.same("a bishop behind it", Check.at("4r2k/8/8/b7/8/8/3B4/4K3 w - -").isPinned(11), true);
        Check.same("checks by two", Check.at("4r2k/8/8/b7/8/5n2/3B4/4K3 w - -").isPinned(11), true);
        // A piece behind its own king: emptied, it lets the rook see no more than it sees now.
        Check.same("behind the king", Check.at("4r2k/8/8/8/4K3/8/4B3/8 w - -").isPinned(12), false);
    }

    /** "it is a piece of the side to move, not its king". */
    private static void pinsOfSides() {
        OpeningsCabinet x = Check.placed("4r2k/6b1/8/8/8/8/1B2N3/4K3", true, 0);
        Check.same("White's knight", x.isPinned(12), true);
        Check.same("Black's bishop, White to move", x.isPinned(54), false);
        Check.same("the king", x.isPinned(4), false);
        OpeningsCabinet y = Check.placed("4r2k/6b1/8/8/8/8/1B2N3/4K3", false, 0);
        Check.same("White's knight, Black to move", y.isPinned(12), false);
        Check.same("Black's bishop", y.isPinned(54), true);
        Check.same("Black's king", y.isPinned(63), false);
        // The king of the side that is not to move stands behind a piece of the side that is.
        OpeningsCabinet z = Check.placed("k7/8/8/8/4K3/8/4b3/4r3", false, 0);
        Check.same("a piece ahead of the other king", z.isPinned(12), false);
    }

    /** A row does not go on at the other edge of the board. */
    private static void pinsAtTheEdges() {
        // The squares d1, a2 and b2 follow each other by their numbers.
        Check.same("along the ranks", Check.placed("k3/4/Nr2/3K", true, 0).isPinned(4), false);
        Check.same("slantingly by 9", Check.placed("k7/8/8/8/1b6/N7/8/7K", true, 0).isPinned(16), false);
        Check.same("slantingly by 7", Check.placed("k7/8/8/8/8/6b1/K6N/8", true, 0).isPinned(15), false);
        Check.same("in the corner", Check.placed("k3/4/4/KN1r", true, 0).isPinned(1), true);
        Check.same("along the edge", Check.placed("1k1r/4/3N/3K", true, 0).isPinned(7), true);
        Check.same("across the smallest board", Check.placed("1k1b/4/1N2/K3", true, 0).isPinned(5), true);
        Check.same("across the greatest board", Check.placed("k6b/8/8/8/8/8/1N6/K7", true, 0).isPinned(9), true);
        Check.same("far from the king", Check.placed("k6b/6N1/8/8/8/8/8/K7", true, 0).isPinned(54), true);
    }

    /** "Throws IllegalStateException if the first position is not proper"; ahead of it the squares that are none. */
    private static void notProper() {
        OpeningsCabinet x = new OpeningsCabinet();
        x.newBoard(4, 4);
        for (int kings = 0; kings < 2; kings++) {
            Check.refuses("checkers with kings: " + kings, STATE, x::checkers);
            for (int square = 0; square < 16; square++) {
                int any = square;
                Check.refuses("isPinned with kings: " + kings, STATE, () -> x.isPinned(any));
                Check.same("isAttacked is told", x.isAttacked(any, false), false);
            }
            Check.refuses("isPinned of no square", INDEX, () -> x.isPinned(16));
            Check.refuses("isPinned of no square ahead", INDEX, () -> x.isPinned(-1));
            x.put(0, 1);
        }
        x.put(15, 7);
        Check.same("checkers of a proper one", x.checkers(), 0);
        Check.same("isPinned of a proper one", x.isPinned(15), false);
        x.put(3, 3);
        Check.refuses("checkers with Black's king attacked", STATE, x::checkers);
        x.setSide(false, 0);
        Check.same("checkers with Black to move", x.checkers(), 1);
    }
}
