/** The bounds of section 11 and of promises 55 to 57: boards and kinds, positions of endings, values. */
public final class BoundsEndingsTest {
    private static final Class<IllegalArgumentException> ARGUMENT = IllegalArgumentException.class;
    private static final Class<IllegalStateException> STATE = IllegalStateException.class;
    private static final int NONE = OpeningsCabinet.NONE;
    private static final int[] NO_KINDS = {Integer.MIN_VALUE, -1, 0, 1, 6, 7, 8, 9, Integer.MAX_VALUE};

    public static void main(String[] args) {
        sizesOfBoards();
        kinds();
        unsolved();
        solvedUntilANewBoard();
        positionsOfEndings();
        positionsThatAreNone();
        valuesAtTheEnd();
        valuesThatFollow();
        endingsThatAreNotWon();
        numbersOfWins();
        Check.end("BoundsEndingsTest");
    }

    /** "It can be solved on boards of at most 25 squares": 24 and 25, and the next greater ones, 28 and 30. */
    private static void sizesOfBoards() {
        for (int files = 4; files <= 8; files++) {
            for (int ranks = 4; ranks <= 8; ranks++) {
                OpeningsCabinet x = new OpeningsCabinet();
                int size = x.newBoard(files, ranks);
                for (int kind = 2; kind <= 5; kind++) {
                    int any = kind;
                    String what = kind + " on " + files + " files, " + ranks + " ranks";
                    Check.refuses("longest of the unsolved " + what, STATE, () -> x.longest(any));
                    if (size > 25) {
                        Check.refuses("solve of " + what, STATE, () -> x.solve(any));
                        Check.refuses("longest of " + what, STATE, () -> x.longest(any));
                    } else {
                        int wins = x.solve(kind);
                        Check.same("wins of " + what, wins > 0, kind <= 3);
                        Check.same("longest of " + what, x.longest(kind) > 0, kind <= 3);
                    }
                }
            }
        }
    }

    /** "kind: 2 to 5", and the numbers beside these, on a board that is too great, too. */
    private static void kinds() {
        OpeningsCabinet x = new OpeningsCabinet();
        OpeningsCabinet y = new OpeningsCabinet();
        y.newBoard(4, 4);
        for (int kind : NO_KINDS) {
            Check.refuses("solve of " + kind + " on 64 squares", ARGUMENT, () -> x.solve(kind));
            Check.refuses("longest of " + kind + " on 64 squares", ARGUMENT, () -> x.longest(kind));
            Check.refuses("solve of " + kind, ARGUMENT, () -> y.solve(kind));
            Check.refuses("longest of " + kind, ARGUMENT, () -> y.longest(kind));
        }
        for (int kind = 2; kind <= 5; kind++) {
            y.solve(kind);
        }
        for (int kind : NO_KINDS) {
            Check.refuses("longest of " + kind + " when all are solved", ARGUMENT, () -> y.longest(kind));
        }
    }

    /** "Throws IllegalStateException if it is not solved": each kind for itself. */
    private static void unsolved() {
        String[] papers = {"k3/4/4/1KQ1 w - -", "k3/4/4/1KR1 w - -", "k3/4/4/1KB1 w - -", "k3/4/4/1KN1 w - -"};
        for (int solved = 2; solved <= 5; solved++) {
            OpeningsCabinet x = new OpeningsCabinet();
            x.newBoard(4, 4);
            x.solve(solved);
            for (int kind = 2; kind <= 5; kind++) {
                int any = kind;
                Check.paper(x, papers[kind - 2]);
                if (kind == solved) {
                    Check.same("value of " + kind, x.endingValue() > 0, kind <= 3);
                    Check.same("longest of " + kind, x.longest(kind) > 0, kind <= 3);
                } else {
                    Check.refuses("value of " + kind + " with " + solved + " solved", STATE, x::endingValue);
                    Check.refuses("longest of " + kind + " with " + solved + " solved", STATE, () -> x.longest(any));
                }
            }
        }
    }

    /** "it stays solved until there is a new board": whatever else is done; also one of the same size ends it. */
    private static void solvedUntilANewBoard() {
        OpeningsCabinet x = Check.at("k3/4/4/1KQ1 w - -");
        int wins = x.solve(2);
        x.play(0);
        x.startHere();
        x.put(0, 0);
        x.setSide(true, 0);
        x.ask(0, 3);
        x.merge();
        Check.paper(x, "k3/4/1K2/1R2 w - -");
        Check.refuses("a board of 9 files", ARGUMENT, () -> x.newBoard(9, 4));
        Check.refuses("a kind that is none", ARGUMENT, () -> x.solve(6));
        Check.same("it is solved still", x.longest(2), 8);
        Check.same("again", x.solve(2), wins);
        Check.same("another one", x.solve(3) > 0, true);
        Check.same("both are solved", x.longest(2) * 100 + x.longest(3), 814);
        x.newBoard(4, 4);
        Check.refuses("the queen on a new board", STATE, () -> x.longest(2));
        Check.refuses("the rook on a new board", STATE, () -> x.longest(3));
        Check.paper(x, "k3/4/4/1KQ1 w - -");
        Check.refuses("a value on a new board", STATE, x::endingValue);
        Check.same("solved again", x.solve(2), wins);
        // A board of another size has its own values.
        x.newBoard(5, 4);
        Check.refuses("on another board", STATE, () -> x.longest(2));
        Check.same("on five files", x.solve(2), 5554);
        x.newBoard(4, 4);
        Check.same("on four files again", x.solve(2), wins);
    }

    /** "in which just the two kings and one white piece of this kind stand", with either side to move. */
    private static void positionsOfEndings() {
        for (int kind = 2; kind <= 5; kind++) {
            OpeningsCabinet x = new OpeningsCabinet();
            x.newBoard(5, 5);
            x.solve(kind);
            char piece = Check.PIECES.charAt(kind);
            for (String side : new String[] {"w", "b"}) {
                Check.paper(x, "k4/5/2K2/5/3" + piece + "1 " + side + " - -");
                Check.same(piece + ", " + side, x.endingValue() >= 0, kind <= 3);
            }
        }
        // Behind moves too, and where the first position is of no ending.
        OpeningsCabinet x = Check.at("k3/4/1q2/1KQ1 w - -");
        x.solve(2);
        Check.refuses("with two queens", STATE, x::endingValue);
        Check.moves(x, "Kxb2");
        Check.same("with one queen", x.endingValue() >= 0, true);
    }

    /** "Throws IllegalStateException if it is not a position of an ending that is solved". */
    private static void positionsThatAreNone() {
        OpeningsCabinet x = new OpeningsCabinet();
        x.newBoard(5, 5);
        Check.refuses("an empty board", STATE, x::endingValue);
        for (int kind = 2; kind <= 5; kind++) {
            x.solve(kind);
        }
        Check.refuses("an empty board, all solved", STATE, x::endingValue);
        String[] papers = {
            "k4/5/2K2/5/5 w - -", "k4/5/2K2/5/q4 w - -", "k4/5/2K2/5/2r2 w - -", "k4/5/2K2/5/2b2 w - -",
            "k4/5/2K2/5/2n2 w - -", "k4/5/2K2/2P2/5 w - -", "k4/5/2K2/2p2/5 w - -", "k4/5/2K2/5/1R1R1 w - -",
            "k4/5/2K2/5/1R1r1 w - -", "k4/5/2K2/3P1/1R3 w - -", "k4/5/2K2/3p1/1R3 w - -", "k4/5/2K2/5/1Q1B1 w - -",
            "k4/5/2K2/5/1N1B1 w - -",
        };
        for (String paper : papers) {
            Check.paper(x, paper);
            Check.refuses("value of " + paper, STATE, x::endingValue);
        }
        // Not proper: kings beside each other, Black's king attacked with White to move, no king, two kings, rights.
        for (String squares : new String[] {"kK3/5/5/5/2R2", "k4/5/2K2/5/R4", "5/5/2K2/5/R4",
                "k4/5/5/5/R4", "k4/5/2K2/4K/1R3"}) {
            for (int square = 0; square < 25; square++) {
                x.put(square, 0);
            }
            for (int i = 0; i < 5; i++) {
                int file = 0;
                for (char sign : squares.split("/")[i].toCharArray()) {
                    int piece = Check.PIECES.indexOf(sign);
                    if (piece > 0) {
                        x.put((4 - i) * 5 + file, piece);
                    }
                    file += piece > 0 ? 1 : sign - '0';
                }
            }
            x.setSide(true, 0);
            Check.refuses("value of " + squares, STATE, x::endingValue);
        }
        Check.paper(x, "k4/5/2K2/5/1R3 w - -");
        Check.same("a value", x.endingValue() > 0, true);
        for (int right = 1; right <= 8; right *= 2) {
            x.setSide(true, right);
            Check.refuses("with the right " + right, STATE, x::endingValue);
        }
    }

    private static int value(String paper, int kind) {
        OpeningsCabinet x = Check.at(paper);
        x.solve(kind);
        return x.endingValue();
    }

    /** "if it is MATE and Black is to move (n = 0)", stalemate, a piece that is lost, one that can be defended. */
    private static void valuesAtTheEnd() {
        Check.same("mate", value("k3/1Q2/1K2/4 b - -", 2), 0);
        Check.same("mate by the rook", value("k2R/4/1K2/4 b - -", 3), 0);
        Check.same("mate in one", value("k3/4/1K2/3R w - -", 3), 1);
        Check.same("stalemate", value("k3/2Q1/4/3K b - -", 2), NONE);
        Check.same("stalemate by the rook", value("k3/1R2/1K2/4 b - -", 3), NONE);
        Check.same("a queen that must be taken", value("k3/1Q2/4/3K b - -", 2), NONE);
        Check.same("a rook that can be taken", value("1k2/2R1/4/K3 b - -", 3), NONE);
        Check.same("the same with White to move", value("1k2/2R1/4/K3 w - -", 3) > 0, true);
        Check.same("check, and the king goes away", value("1k2/4/K3/1R2 b - -", 3) > 0, true);
    }

    /**
     * The value follows from those behind all moves, in each third position of the queen and of the rook on 16
     * squares.
     */
    private static void valuesThatFollow() {
        for (int kind = 2; kind <= 3; kind++) {
            int greatest = NONE;
            OpeningsCabinet x = new OpeningsCabinet();
            int asked = 0;
            for (int places = kind; places < 2 * 16 * 16 * 16; places += 3) {
                // An object is used for at most 512 calls.
                if (asked++ % 6 == 0) {
                    x = new OpeningsCabinet();
                    x.newBoard(4, 4);
                    x.solve(kind);
                }
                int[] squares = {places / 512 % 16, places / 32 % 16, places / 2 % 16};
                if (squares[0] == squares[1] || squares[0] == squares[2] || squares[1] == squares[2]) {
                    continue;
                }
                int[] pieces = {1, 7, kind};
                for (int i = 0; i < 3; i++) {
                    x.put(squares[i], pieces[i]);
                }
                x.setSide(places % 2 == 0, 0);
                if (x.isProper()) {
                    int value = x.endingValue();
                    Check.same("value of " + kind + " at " + places, value, valueByMoves(x, places % 2 == 0));
                    greatest = Math.max(greatest, value);
                }
                for (int square : squares) {
                    x.put(square, 0);
                }
            }
            Check.same("no value is above the longest", greatest <= x.longest(kind), true);
        }
    }

    private static int valueByMoves(OpeningsCabinet x, boolean isWhite) {
        int number = x.moveCount();
        int best = NONE;
        for (int move = 0; move < number; move++) {
            x.play(move);
            int behind = x.material(true) > 0 ? x.endingValue() : NONE;
            x.takeBack();
            if (isWhite && behind != NONE) {
                best = best == NONE ? behind + 1 : Math.min(best, behind + 1);
            }
            if (!isWhite && behind == NONE) {
                return NONE;
            }
            if (!isWhite) {
                best = Math.max(best, behind + 1);
            }
        }
        return number == 0 && x.checkers() > 0 ? 0 : best;
    }

    /** "NONE if White wins none": a bishop and a knight win nothing, on the least board and on the greatest. */
    private static void endingsThatAreNotWon() {
        for (int side = 4; side <= 5; side++) {
            for (int kind = 4; kind <= 5; kind++) {
                OpeningsCabinet x = new OpeningsCabinet();
                x.newBoard(side, side);
                Check.same("wins", x.solve(kind), 0);
                Check.same("longest", x.longest(kind), NONE);
                x.put(0, 7);
                x.put(2 * side, 1);
                x.put(2, kind);
                Check.same("value", x.endingValue(), NONE);
            }
        }
    }

    /** Promise 55: "the number of positions of the ending that White wins", counted one by one on 16 squares. */
    private static void numbersOfWins() {
        for (int kind = 2; kind <= 3; kind++) {
            int wins = 0;
            int longest = NONE;
            for (int king = 0; king < 16; king++) {
                for (int rival = 0; rival < 16; rival++) {
                    if (king == rival) {
                        continue;
                    }
                    // An object is used for at most 512 calls.
                    OpeningsCabinet x = new OpeningsCabinet();
                    x.newBoard(4, 4);
                    x.solve(kind);
                    x.put(king, 1);
                    x.put(rival, 7);
                    for (int square = 0; square < 16; square++) {
                        if (square != king && square != rival) {
                            x.put(square, kind);
                            for (int side = 0; side < 2; side++) {
                                x.setSide(side == 0, 0);
                                int value = x.isProper() ? x.endingValue() : NONE;
                                wins += value != NONE ? 1 : 0;
                                longest = Math.max(longest, value);
                            }
                            x.put(square, 0);
                        }
                    }
                }
            }
            OpeningsCabinet x = new OpeningsCabinet();
            x.newBoard(4, 4);
            Check.same("wins of " + kind, x.solve(kind), wins);
            Check.same("longest of " + kind, x.longest(kind), longest);
        }
    }
}
