/** The bounds of section 7 and of promises 6, 15 and 16: papers that are just papers, and the output. */
public final class BoundsPapersTest {
    private static final Class<IllegalArgumentException> ARGUMENT = IllegalArgumentException.class;
    private static final Class<IllegalStateException> STATE = IllegalStateException.class;
    private static final Class<IndexOutOfBoundsException> INDEX = IndexOutOfBoundsException.class;
    private static final String START = "rnbqkbnr/pppppppp/8/8/8/8/PPPPPPPP/RNBQKBNR w KQkq -";

    public static void main(String[] args) {
        numbersOfPieces();
        rowsOfEmptySquares();
        otherRowsOfEmptySquares();
        papersOfOtherBoards();
        rightsOfPapers();
        partsOfPapers();
        furtherBytes();
        anyOtherByte();
        textsThatAreNone();
        properPapers();
        passingSquares();
        heightsOfPassingSquares();
        whatMakesPassingSquares();
        edgesOfPassingSquares();
        textBehindPapers();
        papersBehindMoves();
        refusedPapers();
        bytesOfOutput();
        Check.end("BoundsPapersTest");
    }

    private static void taken(OpeningsCabinet x, String paper, boolean isDue) {
        Check.type(x, paper);
        String got = Check.thrownBy(x::readPaper);
        String due = "IllegalArgumentException";
        if (isDue) {
            int pieces = 0;
            for (char sign : paper.substring(0, paper.indexOf(' ')).toCharArray()) {
                pieces += Character.isLetter(sign) ? 1 : 0;
            }
            due = String.valueOf(pieces);
        }
        Check.same("readPaper of <" + paper + ">", got, due);
        Check.same("the text behind <" + paper + ">", x.clearText(), 0);
        if (isDue) {
            Check.same("the paper written again", Check.paper(x), paper);
        }
    }

    /** "Returns the number of pieces": the least there can be, and a full board. */
    private static void numbersOfPieces() {
        taken(new OpeningsCabinet(), "4k3/8/8/8/8/8/8/4K3 w - -", true);
        taken(new OpeningsCabinet(),
                "rnbqkbnr/pppppppp/nnnnnnnn/nnnnnnnn/NNNNNNNN/NNNNNNNN/PPPPPPPP/RNBQKBNR b KQkq -", true);
        OpeningsCabinet x = new OpeningsCabinet();
        x.newBoard(4, 4);
        taken(x, "kbbb/bbbb/BBBB/BBBK w - -", true);
    }

    /** "a digit for so many empty squares, as many as possible": from 1 to all the files. */
    private static void rowsOfEmptySquares() {
        for (int files = 4; files <= 8; files++) {
            for (int place = 0; place < files; place++) {
                OpeningsCabinet x = new OpeningsCabinet();
                x.newBoard(files, 4);
                x.put(place, 4);
                int behind = files - 1 - place;
                String rank = (place > 0 ? "" + place : "") + "B" + (behind > 0 ? "" + behind : "");
                Check.same("paper", Check.paper(x), (files + "/").repeat(3) + rank + " w - -");
            }
        }
        OpeningsCabinet x = Check.placed("1n1n1n1n/n1n1n1n1/nn1nn1nn/2n2n2", true, 0);
        Check.same("rows of one and two", Check.paper(x), "1n1n1n1n/n1n1n1n1/nn1nn1nn/2n2n2 w - -");
    }

    /** "a row of empty squares must be told by one digit", and a rank has just as many squares as the board files. */
    private static void otherRowsOfEmptySquares() {
        OpeningsCabinet x = new OpeningsCabinet();
        taken(x, "4k3/8/8/8/8/8/8/K7 w - -", true);
        for (String rank : new String[] {
            "17", "71", "26", "35", "44", "53", "62", "224", "11111111", "08", "80", "9", "0", "", "7", "1", "6P", "8P",
            "P8", "PPPPPPPPP", "PPPPPPP", "7PP", "P61", "P16", "P43", "33P1", "P07", "3P33", "3P5", "4P4", "5P3", "8/",
            "/", "-", " 8",
        }) {
            taken(x, "4k3/8/8/8/" + rank + "/8/8/K7 w - -", false);
            taken(x, "4k3/" + rank + "/8/8/8/8/8/K7 w - -", false);
        }
        taken(x, "4k3/8/8/8/8/8/8/K61 w - -", false);
        taken(x, "4k3/8/8/8/8/8/8/1K51 w - -", false);
        taken(x, "4k21/8/8/8/8/8/8/K7 w - -", false);
        taken(x, "31k3/8/8/8/8/8/8/K7 w - -", false);
        taken(x, "4k3/8/8/8/8/P7/7P/K7 w - -", true);
        x.newBoard(4, 4);
        taken(x, "k3/4/4/3K w - -", true);
        for (String rank : new String[] {"5", "8", "3", "22", "13", "31", "4P", "P4", "2P2", "1111"}) {
            taken(x, "k3/4/" + rank + "/3K w - -", false);
            taken(x, "k3/" + rank + "/4/3K w - -", false);
        }
    }

    /** "the text must be just like this for the present board": the paper of a board is none of any other board. */
    private static void papersOfOtherBoards() {
        for (int files = 4; files <= 8; files++) {
            for (int ranks = 4; ranks <= 8; ranks++) {
                String paper = "k" + (files - 1) + ("/" + files).repeat(ranks - 2) + "/" + (files - 1) + "K w - -";
                OpeningsCabinet x = new OpeningsCabinet();
                for (int otherFiles = 4; otherFiles <= 8; otherFiles++) {
                    for (int otherRanks = 4; otherRanks <= 8; otherRanks++) {
                        x.newBoard(otherFiles, otherRanks);
                        Check.type(x, paper);
                        boolean isRead = Check.thrownBy(x::readPaper).equals("2");
                        boolean isDue = files == otherFiles && ranks == otherRanks;
                        Check.same(paper + " on " + otherFiles + " files, " + otherRanks + " ranks", isRead, isDue);
                    }
                }
            }
        }
    }

    /** "The rights are the letters K (1), Q (2), k (4), q (8) of those that there are, in this order", or -. */
    private static void rightsOfPapers() {
        String[] due = {
            "-", "K", "Q", "KQ", "k", "Kk", "Qk", "KQk", "q", "Kq", "Qq", "KQq", "kq", "Kkq", "Qkq", "KQkq",
        };
        for (int rights = 0; rights <= 15; rights++) {
            OpeningsCabinet x = Check.placed("r3k2r/8/8/8/8/8/8/R3K2R", true, rights);
            String paper = "r3k2r/8/8/8/8/8/8/R3K2R w " + due[rights] + " -";
            Check.same("paper with the rights " + rights, Check.paper(x), paper);
            x.setSide(false, 0);
            taken(x, paper, true);
            Check.same("rights of " + paper, x.rights(), rights);
        }
        OpeningsCabinet x = new OpeningsCabinet();
        for (String rights : new String[] {
            "", "--", "QK", "qk", "kK", "kQ", "qK", "qQ", "kqKQ", "KkQq", "KK", "QQ", "kk", "qq", "KQkqK", "KQkq-",
            "-K", "K-", "KQkqKQkq", "0", "1", "KQ kq", "A", "w", " ", "K ", " K", "KQKQ", "kqkq", "KQkk", "QQkq",
        }) {
            taken(x, "r3k2r/8/8/8/8/8/8/R3K2R w " + rights + " -", false);
        }
    }

    /** "a blank; w or b for the side to move; a blank; ... a blank": these and nothing else. */
    private static void partsOfPapers() {
        OpeningsCabinet x = new OpeningsCabinet();
        String squares = "4k3/8/8/8/8/8/8/4K3";
        taken(x, squares + " w - -", true);
        Check.same("White is to move", x.isWhiteToMove(), true);
        taken(x, squares + " b - -", true);
        Check.same("Black is to move", x.isWhiteToMove(), false);
        for (String rest : new String[] {
            "", " ", "w", " w", " w ", " w -", " w - ", "w - -", " w-- ", " w --", " w- -", " w - --", " w - - ",
            " W - -", " B - -", " a - -", " - - -", " wb - -", " bw - -", "  - -", "  w - -", " w  - -", " w -  -",
            " w - e", " w - 3", " w - e3", " w - i3", " w - e9", " w - e0", " w - `3", " w - 3e", " w - E3", " w - e33",
            " w - -3", " w - e-", "/ w - -", " w/-/-",
        }) {
            taken(x, squares + rest, false);
        }
        taken(x, "/" + squares + " w - -", false);
        taken(x, squares.replace("/", "") + " w - -", false);
        taken(x, squares.replace("/", "//") + " w - -", false);
        taken(x, squares.replace("/", " ") + " w - -", false);
    }

    /** "without further bytes": no paper with a byte more at its end or ahead, and none that breaks off. */
    private static void furtherBytes() {
        OpeningsCabinet x = new OpeningsCabinet();
        String[] papers = {START, "4k3/8/8/2pP4/8/8/8/4K3 w - c6"};
        for (String paper : papers) {
            for (int length = 0; length < paper.length(); length++) {
                OpeningsCabinet y = new OpeningsCabinet();
                taken(y, paper.substring(0, length), false);
            }
            for (char more : new char[] {' ', '-', '/', 'K', '8', '1', 'w', 'c', '~'}) {
                taken(x, paper + more, false);
                taken(x, more + paper, false);
            }
            taken(x, paper, true);
        }
        OpeningsCabinet y = new OpeningsCabinet();
        taken(y, START + " ".repeat(500 - START.length()), false);
        taken(y, START.repeat(9), false);
        taken(y, START, true);
    }

    /** Each byte of a paper in the place of each other one: what is read at all is written again as it was read. */
    private static void anyOtherByte() {
        String paper = "r3k2r/8/8/2pP4/8/8/8/R3K2R w KQkq c6";
        int read = 0;
        for (int place = 0; place < paper.length(); place++) {
            for (char sign = 32; sign <= 126; sign++) {
                String other = paper.substring(0, place) + sign + paper.substring(place + 1);
                OpeningsCabinet x = new OpeningsCabinet();
                Check.type(x, other);
                boolean isRead = !Check.thrownBy(x::readPaper).endsWith("Exception");
                read += isRead ? 1 : 0;
                Check.same("written again", Check.paper(x), isRead ? other : START);
            }
        }
        // The paper itself in each of its 36 places; no other piece or square would do.
        Check.same("papers that were read", read, 36);
    }

    /** No text, blanks alone, and a full text are no papers. */
    private static void textsThatAreNone() {
        OpeningsCabinet x = new OpeningsCabinet();
        taken(x, "", false);
        taken(x, " ", false);
        taken(x, " ".repeat(500), false);
        taken(x, "8/".repeat(250), false);
        taken(x, "k".repeat(500), false);
        taken(x, "-", false);
        taken(x, "e4 e5", false);
        Check.same("nothing was changed", Check.paper(x), START);
    }

    /** "the position must be proper". */
    private static void properPapers() {
        OpeningsCabinet x = new OpeningsCabinet();
        String[] wrong = {
            "8/8/8/8/8/8/8/8 w - -", "4k3/8/8/8/8/8/8/8 w - -", "8/8/8/8/8/8/8/4K3 w - -", "4k3/8/8/8/8/8/8/K3K3 w - -",
            "k3k3/8/8/8/8/8/8/4K3 w - -", "4k2P/8/8/8/8/8/8/4K3 b - -", "4k2p/8/8/8/8/8/8/4K3 w - -",
            "4k3/8/8/8/8/8/8/4K2P w - -", "4k3/8/8/8/8/8/8/4K2p b - -", "4k3/8/8/8/8/8/8/4K2q b - -",
            "4k2Q/8/8/8/8/8/8/4K3 w - -", "4k3/4K3/8/8/8/8/8/8 w - -", "4k3/8/8/8/8/8/8/4K3 w K -",
            "4k3/8/8/8/8/8/8/4K3 b q -", "r3k2r/8/8/8/8/8/8/R2K3R w Q -",
        };
        for (String paper : wrong) {
            taken(x, paper, false);
        }
        taken(x, "4k2Q/8/8/8/8/8/8/4K3 b - -", true);
        taken(x, "4k3/8/8/8/8/8/8/4K2q w - -", true);
    }

    /** Of all squares just the one that was passed: on the third rank of the side that is not to move. */
    private static void passingSquares() {
        for (int square = 0; square < 64; square++) {
            String name = Check.name(square, 8);
            OpeningsCabinet x = new OpeningsCabinet();
            taken(x, "4k3/8/8/2pP4/1Pp5/8/8/4K3 w - " + name, name.equals("c6"));
            Check.same("passing square", x.passingSquare(), name.equals("c6") ? 42 : -1);
            OpeningsCabinet y = new OpeningsCabinet();
            taken(y, "4k3/8/8/2pP4/1Pp5/8/8/4K3 b - " + name, name.equals("b3"));
            Check.same("passing square", y.passingSquare(), name.equals("b3") ? 17 : -1);
        }
    }

    /** "the board has at least 6 ranks": on 6, 7 and 8 of them there is such a square, on 4 and 5 there is none. */
    private static void heightsOfPassingSquares() {
        for (int ranks = 4; ranks <= 8; ranks++) {
            for (int square = 0; square < 4 * ranks; square++) {
                String name = Check.name(square, 4);
                OpeningsCabinet x = new OpeningsCabinet();
                x.newBoard(4, ranks);
                String far = ranks == 4 ? "" : "4/".repeat(ranks - 5);
                // White's pawn stands two ranks in front of its second rank; on 4 ranks that would be its last one.
                String white = ranks == 4 ? "3k/1Pp1/4/3K b - " : "3k/" + far + "1Pp1/4/4/3K b - ";
                taken(x, white + name, ranks >= 6 && name.equals("b3"));
                x.newBoard(4, ranks);
                String black = ranks == 4 ? "3k/4/1pP1/3K w - " : "3k/4/4/1pP1/" + far + "3K w - ";
                taken(x, black + name, ranks >= 6 && name.equals("b" + (ranks - 2)));
            }
        }
    }

    /** The other things that section 7 asks of a passing square, each of them left out. */
    private static void whatMakesPassingSquares() {
        // "it and the square behind it (on the second rank) are empty"
        passing("4k3/8/8/8/3pP3/8/8/7K b - e3", true);
        for (char piece : "QRBNPqrbnp".toCharArray()) {
            passing("4k3/8/8/8/3pP3/4" + piece + "3/8/7K b - e3", false);
            passing("4k3/8/8/8/3pP3/8/4" + piece + "3/7K b - e3", false);
        }
        passing("4k3/8/8/8/3pP3/8/4K3/8 b - e3", false);
        passing("4k3/8/8/8/3pP3/3N4/3N4/7K b - e3", true);
        passing("4k3/8/8/8/3pP3/5N2/5N2/7K b - e3", true);
        passing("4k3/4p3/8/3Pp3/8/8/8/4K3 w - e6", false);
        passing("4k3/8/4n3/3Pp3/8/8/8/4K3 w - e6", false);
        passing("4k3/3n4/3n4/3Pp3/8/8/8/4K3 w - e6", true);
        // "a pawn of that side stands on the square in front of it"
        passing("4k3/8/8/8/3pP3/8/8/K7 b - e3", true);
        passing("4k3/8/8/8/3p4/8/8/K7 b - e3", false);
        for (char piece : "QRBNqrbnp".toCharArray()) {
            passing("4k3/8/8/8/3p" + piece + "3/8/8/K7 b - e3", false);
        }
        passing("4k3/8/8/8/4P3/3p4/8/6K1 b - e3", false);
        passing("4k3/8/8/4P3/3p4/8/8/4K3 b - e3", false);
        passing("4k3/8/8/3Pp3/8/8/8/4K3 w - e6", true);
        passing("4k3/8/8/3PP3/8/8/8/4K3 w - e6", false);
        // "a pawn of the side to move stands beside that pawn, on the same rank and a neighbouring file"
        for (char piece : "pQRBNPqrbn".toCharArray()) {
            passing("2k5/8/8/8/3" + piece + "P3/8/7K/8 b - e3", piece == 'p');
            passing("2k5/8/8/8/4P" + piece + "2/8/8/K7 b - e3", piece == 'p');
        }
        passing("2k5/8/8/8/4P3/8/8/K7 b - e3", false);
        passing("4k3/8/8/8/3pPp2/8/8/4K3 b - e3", true);
        passing("4k3/8/8/8/4Pp2/8/8/4K3 b - e3", true);
        passing("4k3/8/8/8/2p1P1p1/8/8/4K3 b - e3", false);
        passing("4k3/8/8/3p1p2/4P3/8/8/4K3 b - e3", false);
        passing("4k3/8/8/8/4P3/3p1p2/8/6K1 b - e3", false);
    }

    private static void passing(String paper, boolean isDue) {
        taken(new OpeningsCabinet(), paper, isDue);
    }

    /** A neighbouring file at the edges of the board: what follows by its number at the other edge is no neighbour. */
    private static void edgesOfPassingSquares() {
        passing("4k3/8/8/8/Pp6/8/8/4K3 b - a3", true);
        passing("4k3/8/8/8/6pP/8/8/4K3 b - h3", true);
        passing("4k3/8/8/8/P6p/8/8/4K3 b - a3", false);
        passing("4k3/8/8/8/p6P/8/8/4K3 b - h3", false);
        passing("4k3/8/8/8/P7/7p/8/4K3 b - a3", false);
        passing("4k3/8/8/p7/7P/8/8/4K3 b - h3", false);
        passing("4k3/8/8/pP6/8/8/8/4K3 w - a6", true);
        passing("4k3/8/8/6Pp/8/8/8/4K3 w - h6", true);
        passing("4k3/8/8/p6P/8/8/8/4K3 w - a6", false);
        passing("4k3/8/8/P6p/8/8/8/4K3 w - h6", false);
        passing("4k3/8/8/p7/7P/8/8/4K3 w - a6", false);
        passing("4k3/8/P7/7p/8/8/8/4K3 w - h6", false);
    }

    /** "The text is empty then, also if an exception is thrown": behind a paper, behind each exception. */
    private static void textBehindPapers() {
        OpeningsCabinet x = new OpeningsCabinet();
        Check.type(x, START);
        Check.same("a paper", x.readPaper(), 32);
        Check.same("the text behind a paper", x.clearText(), 0);
        Check.type(x, "x".repeat(500));
        Check.refuses("a full text", ARGUMENT, x::readPaper);
        Check.same("the text behind a full one", x.clearText(), 0);
        Check.refuses("an empty text", ARGUMENT, x::readPaper);
        x.play(0);
        Check.type(x, START);
        Check.refuses("a paper behind a move", STATE, x::readPaper);
        Check.same("the text behind it", x.clearText(), 0);
        Check.type(x, "x");
        Check.refuses("no paper behind a move", ARGUMENT, x::readPaper);
        Check.same("the text behind that", x.clearText(), 0);
    }

    /** "Throws IllegalStateException if a move was made", also for the paper of the present position. */
    private static void papersBehindMoves() {
        OpeningsCabinet x = new OpeningsCabinet();
        x.play(0);
        String paper = Check.paper(x);
        Check.type(x, paper);
        Check.refuses("its own paper", STATE, x::readPaper);
        Check.same("the move that was made", x.madeCount(), 1);
        x.takeBack();
        Check.same("with no move left", Check.paper(x, paper), 32);
        Check.same("it is the first position", x.madeCount(), 0);
        Check.same("it stood once", x.repetitions(), 1);
    }

    /** A paper that is refused leaves the position, its rights, its passing square and its side as they were. */
    private static void refusedPapers() {
        String paper = "r3k2r/8/8/2pP4/8/8/8/R3K2R w KQkq c6";
        String[] wrong = {
            "", "4k3/8/8/8/8/8/8/4K3 b - e3", "4k3/8/8/8/8/8/8/4K3 b - - ", "4k3/8/8/8/8/8/8/4K3 b K -",
            "8/8/8/8/8/8/8/8 b - -", "4k3/8/8/8/8/8/4q3/4K3 b - -",
        };
        for (String other : wrong) {
            OpeningsCabinet x = Check.at(paper);
            x.addGame(0, 1, 1950, 7);
            taken(x, other, false);
            Check.same("the position behind <" + other + ">", Check.paper(x), paper);
            Check.same("the game behind <" + other + ">", x.count(0), 1);
            Check.same("repetitions behind <" + other + ">", x.repetitions(), 1);
        }
    }

    /** Promises 15 and 16: "in place of what is there"; the first and the last byte, and those beside them. */
    private static void bytesOfOutput() {
        OpeningsCabinet x = new OpeningsCabinet();
        Check.refuses("the first byte of an empty output", INDEX, () -> x.outputByte(0));
        Check.refuses("a byte ahead of an empty output", INDEX, () -> x.outputByte(-1));
        x.newBoard(4, 4);
        int[] lengths = {x.writePaper(), 0, 0};
        Check.same("the shortest paper", lengths[0], "4/4/4/4 w - -".length());
        x.newBoard(8, 8);
        for (int square = 0; square < 64; square++) {
            x.put(square, 12);
        }
        x.setSide(false, 15);
        lengths[1] = x.writePaper();
        Check.same("the longest paper", lengths[1], 64 + 7 + " b KQkq -".length());
        Check.same("its first byte", x.outputByte(0), (int) 'p');
        Check.same("its last byte", x.outputByte(79), (int) '-');
        Check.refuses("the byte behind its last one", INDEX, () -> x.outputByte(80));
        x.newBoard(4, 4);
        Check.same("the output is kept", x.outputByte(79), (int) '-');
        lengths[2] = x.writePaper();
        Check.same("a shorter paper in place of it", lengths[2], lengths[0]);
        Check.same("its last byte", x.outputByte(lengths[2] - 1), (int) '-');
        for (int index : new int[] {Integer.MIN_VALUE, -1, lengths[2], 79, 500, Integer.MAX_VALUE}) {
            Check.refuses("byte " + index, INDEX, () -> x.outputByte(index));
        }
    }
}
