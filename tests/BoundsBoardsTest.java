/** The bounds of sections 1 and 2 and of promises 1 to 5, 7 to 11, 17 and 18: boards, pieces, proper positions. */
public final class BoundsBoardsTest {
    private static final Class<IllegalArgumentException> ARGUMENT = IllegalArgumentException.class;
    private static final Class<IllegalStateException> STATE = IllegalStateException.class;
    private static final Class<IndexOutOfBoundsException> INDEX = IndexOutOfBoundsException.class;
    /** Both kings, all rooks at home, and nothing else. */
    private static final String HOME = "r3k2r/8/8/8/8/8/8/R3K2R";
    private static final int[] NO_SQUARES = {Integer.MIN_VALUE, -64, -1, Integer.MAX_VALUE};

    public static void main(String[] args) {
        sizesOfBoards();
        namesOfSquares();
        squaresOfBoards();
        numbersOfPieces();
        worths();
        mostWorth();
        filesOfPawns();
        newBoardClearsAll();
        newBoardAtAnyTime();
        setUpWithoutMovesAlone();
        putForgets();
        setSideForgets();
        numbersOfRights();
        numbersOfKings();
        pawnsOnTheEdges();
        attackedKings();
        soundRights();
        rightsOfNarrowBoards();
        samePositions();
        Check.end("BoundsBoardsTest");
    }

    /** "A board has 4 to 8 files ... and 4 to 8 ranks": each pair of numbers in and beside these. */
    private static void sizesOfBoards() {
        int[] sizes = {Integer.MIN_VALUE, -8, -4, 0, 1, 3, 4, 5, 6, 7, 8, 9, 16, 0x10004, Integer.MAX_VALUE};
        for (int files : sizes) {
            for (int ranks : sizes) {
                OpeningsCabinet x = new OpeningsCabinet();
                String what = "newBoard(" + files + ", " + ranks + ")";
                if (files < 4 || files > 8 || ranks < 4 || ranks > 8) {
                    Check.refuses(what, ARGUMENT, () -> x.newBoard(files, ranks));
                    Check.same("the last square behind the refused " + what, x.pieceAt(63), 9);
                    Check.same("the last file behind the refused " + what, x.isOpenFile(7), false);
                } else {
                    Check.same(what, x.newBoard(files, ranks), files * ranks);
                }
            }
        }
    }

    /**
     * "numbered from 0 and named a, b, c and so on"; "1, 2, 3 and so on"; "rank times the number of files plus file".
     */
    private static void namesOfSquares() {
        for (int files = 4; files <= 8; files++) {
            for (int ranks = 4; ranks <= 8; ranks++) {
                OpeningsCabinet x = new OpeningsCabinet();
                x.newBoard(files, ranks);
                // The rook on a1 goes to all other squares of the file a and of the rank 1.
                x.put(0, 3);
                x.put(files + 1, 1);
                x.put(files * ranks - 1, 7);
                StringBuilder due = new StringBuilder("1");
                for (int file = 1; file < files; file++) {
                    due.append(" R").append("abcdefgh".charAt(file)).append('1');
                }
                for (int rank = 1; rank < ranks; rank++) {
                    due.append(" Ra").append("12345678".charAt(rank));
                }
                StringBuilder found = new StringBuilder("1");
                for (int move = 0; move < x.moveCount() && x.moveFrom(move) == 0; move++) {
                    found.append(' ').append(Check.letters(x, move).replace("+", ""));
                    int to = move < files - 1 ? move + 1 : (move - files + 2) * files;
                    Check.same("where the rook goes by " + move, x.moveTo(move), to);
                }
                Check.same("names on " + files + " files, " + ranks + " ranks", found.toString(), due.toString());
            }
        }
    }

    /** "IndexOutOfBoundsException is thrown for a square ... a file ... that does not exist", on all boards. */
    private static void squaresOfBoards() {
        for (int files = 4; files <= 8; files++) {
            for (int ranks = 4; ranks <= 8; ranks++) {
                OpeningsCabinet x = new OpeningsCabinet();
                int size = x.newBoard(files, ranks);
                Check.same("first square", x.put(0, 1), 0);
                Check.same("last square", x.put(size - 1, 7), 0);
                for (int i = 0; i <= NO_SQUARES.length; i++) {
                    int square = i < NO_SQUARES.length ? NO_SQUARES[i] : size;
                    String what = " of the square " + square + " of " + size;
                    Check.refuses("put" + what, INDEX, () -> x.put(square, 1));
                    Check.refuses("pieceAt" + what, INDEX, () -> x.pieceAt(square));
                    Check.refuses("isAttacked" + what, INDEX, () -> x.isAttacked(square, true));
                    Check.refuses("isPinned" + what, INDEX, () -> x.isPinned(square));
                    Check.refuses("ask" + what, INDEX, () -> x.ask(square, 0));
                }
                Check.same("the last square is pinned", x.isPinned(size - 1), false);
                Check.same("the last square is attacked", x.isAttacked(size - 1, false), false);
                Check.same("asked of the last square", x.ask(size - 1, 0), 15);
                Check.same("the last file", x.isOpenFile(files - 1), true);
                int noFile = files;
                Check.refuses("the file behind it", INDEX, () -> x.isOpenFile(noFile));
                Check.refuses("the file ahead of a", INDEX, () -> x.isOpenFile(-1));
                Check.refuses("the least file", INDEX, () -> x.isOpenFile(Integer.MIN_VALUE));
                Check.refuses("the greatest file", INDEX, () -> x.isOpenFile(Integer.MAX_VALUE));
            }
        }
    }

    /** "A white piece is told by its kind, a black one by its kind plus 6, an empty square by 0"; put takes 0 to 12. */
    private static void numbersOfPieces() {
        for (int piece = 0; piece <= 12; piece++) {
            OpeningsCabinet x = new OpeningsCabinet();
            x.newBoard(4, 4);
            x.put(5, piece);
            Check.same("piece " + piece, x.pieceAt(5), piece);
            String letter = piece == 0 ? "1" : String.valueOf("KQRBNPkqrbnp".charAt(piece - 1));
            String rank = piece == 0 ? "4" : "1" + letter + "2";
            Check.same("paper with the piece " + piece, Check.paper(x), "4/4/" + rank + "/4 w - -");
            Check.same("put in place of the piece " + piece, x.put(5, 12 - piece), piece);
            for (int wrong : new int[] {Integer.MIN_VALUE, -6, -1, 13, 14, 15, 256 + 6, Integer.MAX_VALUE}) {
                Check.refuses("put of " + wrong, ARGUMENT, () -> x.put(5, wrong));
            }
            Check.same("what stands there still", x.pieceAt(5), 12 - piece);
        }
    }

    /** "queen 9, rook 5, bishop and knight 3, pawn 1", and the king nothing, of the side that is asked alone. */
    private static void worths() {
        int[] worths = {0, 0, 9, 5, 3, 3, 1};
        for (int piece = 0; piece <= 12; piece++) {
            OpeningsCabinet x = new OpeningsCabinet();
            x.newBoard(4, 4);
            Check.same("an empty board", x.material(true) + x.material(false), 0);
            x.put(15, piece);
            Check.same("white worth of " + piece, x.material(true), piece <= 6 ? worths[piece] : 0);
            Check.same("black worth of " + piece, x.material(false), piece > 6 ? worths[piece - 6] : 0);
        }
    }

    /** The greatest sum there can be: a full board of queens. */
    private static void mostWorth() {
        OpeningsCabinet x = new OpeningsCabinet();
        x.newBoard(8, 8);
        for (int square = 0; square < 64; square++) {
            x.put(square, 2);
        }
        Check.same("64 white queens", x.material(true), 576);
        Check.same("no black piece", x.material(false), 0);
        for (int square = 0; square < 64; square++) {
            x.put(square, 8);
        }
        Check.same("64 black queens", x.material(false), 576);
        Check.same("no white piece", x.material(true), 0);
    }

    /** "Tells whether no pawn stands on a file": a pawn of either side, on any rank, and no other piece. */
    private static void filesOfPawns() {
        for (int piece = 1; piece <= 12; piece++) {
            for (int square : new int[] {0, 3, 12, 19}) {
                OpeningsCabinet x = new OpeningsCabinet();
                x.newBoard(4, 5);
                x.put(square, piece);
                for (int file = 0; file < 4; file++) {
                    boolean due = piece != 6 && piece != 12 || file != square % 4;
                    Check.same("file " + file + " with " + piece + " on " + square, x.isOpenFile(file), due);
                }
            }
        }
    }

    /** Promise 2: each thing that a new board empties, from an object in which it was not empty. */
    private static void newBoardClearsAll() {
        OpeningsCabinet x = new OpeningsCabinet();
        x.newBoard(5, 5);
        x.solve(2);
        x.solve(5);
        x.newBoard(8, 8);
        Check.paper(x, "rnbqkbnr/pppppppp/8/8/8/8/PPPPPPPP/RNBQKBNR w KQkq -");
        x.ask(0, 3);
        x.ask(63, 14);
        x.addGame(0, 0, 1900, 1);
        x.addGame(1, 0, 1900, 1);
        Check.moves(x, "e4 a6 e5 d5");
        Check.moves(x, "Ke2");
        x.takeBack();
        Check.same("a passing square ahead", x.passingSquare(), 43);
        Check.same("rights ahead", x.rights(), 15);
        x.play(0);
        Check.same("Black is to move ahead", x.isWhiteToMove(), false);
        Check.same("newBoard", x.newBoard(5, 5), 25);
        for (int square = 0; square < 25; square++) {
            Check.same("nothing stands on " + square, x.pieceAt(square), 0);
            Check.same("asked of " + square, x.ask(square, 15), 15);
        }
        Check.same("White is to move", x.isWhiteToMove(), true);
        Check.same("no rights", x.rights(), 0);
        Check.same("no passing square", x.passingSquare(), -1);
        Check.same("no move was made", x.madeCount(), 0);
        Check.refuses("nothing can be taken back", STATE, x::takeBack);
        Check.same("no games", x.gameCount(0) + x.gameCount(1), 0);
        Check.refuses("no game of the shelf 0", INDEX, () -> x.gameLength(0, 0));
        Check.refuses("no game of the shelf 1", INDEX, () -> x.gameLength(1, 0));
        Check.refuses("nothing is asked", java.util.NoSuchElementException.class, x::asked);
        for (int kind = 2; kind <= 5; kind++) {
            int unsolved = kind;
            Check.refuses("the ending " + kind, STATE, () -> x.longest(unsolved));
        }
        passingSquareOfNewBoard();
    }

    /** A new board right behind a first step: the square that was passed is no passing square there. */
    private static void passingSquareOfNewBoard() {
        OpeningsCabinet x = new OpeningsCabinet();
        Check.moves(x, "e4 a6 e5 d5");
        x.newBoard(8, 8);
        Check.same("no passing square", x.passingSquare(), -1);
        Check.same("paper", Check.paper(x), "8/8/8/8/8/8/8/8 w - -");
    }

    /** "(newBoard() and startHere() can be called always)": behind no move, one and 80, and on an improper position. */
    private static void newBoardAtAnyTime() {
        OpeningsCabinet x = new OpeningsCabinet();
        Check.rounds(x, 20);
        Check.same("80 moves", x.madeCount(), 80);
        Check.same("startHere behind 80", x.startHere(), 80);
        Check.same("startHere again", x.startHere(), 0);
        Check.rounds(x, 20);
        Check.same("newBoard behind 80", x.newBoard(4, 4), 16);
        Check.same("startHere on an empty board", x.startHere(), 0);
        Check.same("newBoard on an empty board", x.newBoard(8, 8), 64);
    }

    /** "The board can be set up ... only as long as no move was made", and again when none is left. */
    private static void setUpWithoutMovesAlone() {
        OpeningsCabinet x = new OpeningsCabinet();
        String start = Check.paper(x);
        x.play(0);
        for (int made = 1; made <= 2; made++) {
            Check.refuses("put behind " + made, STATE, () -> x.put(0, 0));
            Check.refuses("put of what stands there behind " + made, STATE, () -> x.put(0, 3));
            Check.refuses("setSide behind " + made, STATE, () -> x.setSide(true, 15));
            Check.type(x, start);
            Check.refuses("readPaper behind " + made, STATE, x::readPaper);
            x.play(0);
        }
        x.takeBack();
        x.takeBack();
        Check.refuses("put with one move left", STATE, () -> x.put(0, 0));
        x.takeBack();
        Check.same("setSide when all are taken back", x.setSide(true, 0), 15);
        Check.same("put when all are taken back", x.put(0, 0), 3);
        Check.same("readPaper when all are taken back", Check.paper(x, start), 32);
        x.play(0);
        x.startHere();
        Check.same("put behind startHere", x.put(0, 0), 3);
        Check.same("setSide behind startHere", x.setSide(true, 0), 0);
        Check.same("readPaper behind startHere", Check.paper(x, start), 32);
    }

    /** "the rights and the passing square are NONE (0 for the rights) then", also if nothing else changes. */
    private static void putForgets() {
        for (int square : new int[] {0, 1, 43}) {
            OpeningsCabinet x = Check.at("r3k2r/8/8/3pP3/8/8/8/R3K2R w KQkq d6");
            Check.same("rights ahead", x.rights(), 15);
            Check.same("passing square ahead", x.passingSquare(), 43);
            x.put(square, x.pieceAt(square));
            Check.same("rights behind put on " + square, x.rights(), 0);
            Check.same("passing square behind put on " + square, x.passingSquare(), -1);
            Check.same("paper", Check.paper(x), "r3k2r/8/8/3pP3/8/8/8/R3K2R w - -");
        }
        OpeningsCabinet y = Check.at("r3k2r/8/8/3pP3/8/8/8/R3K2R w KQkq d6");
        Check.refuses("put of no piece", ARGUMENT, () -> y.put(0, 13));
        Check.refuses("put on no square", INDEX, () -> y.put(64, 0));
        Check.same("a refused put keeps both", Check.paper(y), "r3k2r/8/8/3pP3/8/8/8/R3K2R w KQkq d6");
        y.setSide(false, 15);
        y.put(1, 0);
        Check.same("put keeps the side", y.isWhiteToMove(), false);
    }

    /** "Sets the side to move and the rights; the passing square is NONE then", also if nothing else changes. */
    private static void setSideForgets() {
        OpeningsCabinet x = Check.at("r3k2r/8/8/3pP3/8/8/8/R3K2R w KQkq d6");
        Check.refuses("rights 16", ARGUMENT, () -> x.setSide(true, 16));
        Check.same("a refused setSide keeps it", x.passingSquare(), 43);
        Check.same("rights before", x.setSide(true, 15), 15);
        Check.same("passing square then", x.passingSquare(), -1);
        Check.same("side then", x.isWhiteToMove(), true);
    }

    /** Rights are 0 to 15, whatever stands on the board. */
    private static void numbersOfRights() {
        OpeningsCabinet x = new OpeningsCabinet();
        x.newBoard(4, 4);
        int before = 0;
        for (int rights = 0; rights <= 15; rights++) {
            Check.same("rights before " + rights, x.setSide(rights % 2 == 0, rights), before);
            Check.same("rights " + rights, x.rights(), rights);
            Check.same("side with " + rights, x.isWhiteToMove(), rights % 2 == 0);
            before = rights;
        }
        for (int wrong : new int[] {Integer.MIN_VALUE, -16, -1, 16, 17, 31, 256, Integer.MAX_VALUE}) {
            Check.refuses("rights " + wrong, ARGUMENT, () -> x.setSide(true, wrong));
        }
        Check.same("rights then", x.rights(), 15);
        Check.same("side then", x.isWhiteToMove(), false);
        Check.same("the last ones", x.setSide(true, 0), 15);
    }

    private static void proper(String squares, boolean isWhite, int rights, boolean due) {
        OpeningsCabinet x = Check.placed(squares, isWhite, rights);
        String what = squares + (isWhite ? " w " : " b ") + rights;
        Check.same("isProper of " + what, x.isProper(), due);
        Check.same("moveCount of " + what, !Check.thrownBy(x::moveCount).endsWith("Exception"), due);
    }

    /** "there is just one king of each side": none, one, two. */
    private static void numbersOfKings() {
        String[] whites = {"4", "K3", "K2K"};
        String[] blacks = {"4", "k3", "k2k"};
        for (int white = 0; white <= 2; white++) {
            for (int black = 0; black <= 2; black++) {
                String squares = blacks[black] + "/4/4/" + whites[white];
                proper(squares, true, 0, white == 1 && black == 1);
                proper(squares, false, 0, white == 1 && black == 1);
            }
        }
    }

    /** "no pawn stands on the first or last rank of the board", of either side; on the ranks next to them it may. */
    private static void pawnsOnTheEdges() {
        for (int ranks = 4; ranks <= 8; ranks++) {
            for (int file : new int[] {0, 7}) {
                for (int rank = 0; rank < ranks; rank++) {
                    for (int pawn = 6; pawn <= 12; pawn += 6) {
                        OpeningsCabinet x = new OpeningsCabinet();
                        x.newBoard(8, ranks);
                        x.put(3, 1);
                        x.put((ranks - 1) * 8 + 4, 7);
                        x.put(rank * 8 + file, pawn);
                        boolean due = rank > 0 && rank < ranks - 1;
                        String what = "pawn " + pawn + " on the rank " + rank + " of " + ranks;
                        Check.same(what, x.isProper(), due);
                    }
                }
            }
        }
        // Other pieces may stand on all edges.
        proper("nbrqk1bn/8/8/8/8/8/8/NBRQK1BN", true, 0, true);
    }

    /** "the king of the side that is not to move is not attacked": that of the side to move may be. */
    private static void attackedKings() {
        String[] attacked = {
            "k3/4/4/K2q", "k2r/4/4/3K", "k3/2b1/4/K3", "k3/2n1/4/1K2", "k3/4/1p2/K3", "k3/4/1p2/2K1", "k3/4/1b2/4/3K",
        };
        String[] calm = {
            "k3/3q/4/K3", "k3/1r2/4/K3", "k3/4/b3/K3", "k3/4/1n2/K3", "k3/4/p3/K3", "k3/4/K3/1p2/4", "k3/4/4/Kn1q",
        };
        for (int i = 0; i < 7; i++) {
            proper(attacked[i], true, 0, true);
            proper(attacked[i], false, 0, false);
            proper(calm[i], true, 0, true);
            proper(calm[i], false, 0, true);
            // The same with the sides in each other's place: what stood below stands above.
            proper(turned(attacked[i]), false, 0, true);
            proper(turned(attacked[i]), true, 0, false);
            proper(turned(calm[i]), false, 0, true);
            proper(turned(calm[i]), true, 0, true);
        }
        for (boolean isWhite : new boolean[] {true, false}) {
            proper("k3/1K2/4/4", isWhite, 0, false);
            proper("kK2/4/4/4", isWhite, 0, false);
            proper("k3/2K1/4/4", isWhite, 0, true);
            proper("k1K1/4/4/4", isWhite, 0, true);
            // The squares d3 and a4 follow each other, but lie at the two ends of the board.
            proper("k3/3K/4/4", isWhite, 0, true);
        }
    }

    private static String turned(String squares) {
        StringBuilder signs = new StringBuilder();
        for (String rank : squares.split("/")) {
            signs.insert(0, "/" + rank);
        }
        for (int i = 0; i < signs.length(); i++) {
            char sign = signs.charAt(i);
            signs.setCharAt(i, Character.isUpperCase(sign) ? Character.toLowerCase(sign) : Character.toUpperCase(sign));
        }
        return signs.substring(1);
    }

    /** "each right is sound": king and rook of this side at home, on boards of 8 files, whatever their ranks. */
    private static void soundRights() {
        for (int ranks = 4; ranks <= 8; ranks++) {
            String middle = "/8".repeat(ranks - 2) + "/";
            for (int rights = 0; rights <= 15; rights++) {
                boolean ofWhite = (rights & 3) != 0;
                boolean ofBlack = (rights & 12) != 0;
                proper("r3k2r" + middle + "R3K2R", true, rights, true);
                proper("r3k2r" + middle + "R3K2R", false, rights, true);
                proper("r3k3" + middle + "R3K2R", true, rights, (rights & 4) == 0);
                proper("4k2r" + middle + "R3K2R", true, rights, (rights & 8) == 0);
                proper("r3k2r" + middle + "R3K3", true, rights, (rights & 1) == 0);
                proper("r3k2r" + middle + "4K2R", true, rights, (rights & 2) == 0);
                proper("r3k2r" + middle + "R2K3R", true, rights, !ofWhite);
                proper("r3k2r" + middle + "R4K1R", true, rights, !ofWhite);
                proper("r2k3r" + middle + "R3K2R", true, rights, !ofBlack);
                proper("r4k1r" + middle + "R3K2R", true, rights, !ofBlack);
                proper("r3k2n" + middle + "R3K2N", true, rights, (rights & 5) == 0);
                proper("n3k2r" + middle + "N3K2R", true, rights, (rights & 10) == 0);
                proper("r3k1r1" + middle + "R3K1R1", true, rights, (rights & 5) == 0);
                proper("1r2k2r" + middle + "1R2K2R", true, rights, (rights & 10) == 0);
            }
        }
        // Rooks of the other side, and kings that stand on another rank or on the first one of the other side.
        String[] others = {
            "Rb2kb1R/8/8/8/8/8/8/rB2KB1r", "4k3/r6r/8/8/8/8/R6R/4K3", "r6r/4k3/8/8/8/8/4K3/R6R",
            "R3K2R/8/8/8/8/8/8/r3k2r",
        };
        for (String squares : others) {
            proper(squares, true, 0, true);
            for (int rights = 1; rights <= 15; rights++) {
                proper(squares, true, rights, false);
            }
        }
    }

    /** "the board has 8 files": on 4 to 7 files no right is sound, wherever kings and rooks stand. */
    private static void rightsOfNarrowBoards() {
        for (int files = 4; files <= 7; files++) {
            for (int king = 0; king < files; king++) {
                OpeningsCabinet x = new OpeningsCabinet();
                x.newBoard(files, 8);
                for (int file = 0; file < files; file++) {
                    x.put(file, file == king ? 1 : 3);
                    x.put(7 * files + file, file == king ? 7 : 9);
                    x.put(files + file, 4);
                    x.put(6 * files + file, 10);
                }
                Check.same("proper without rights on " + files + " files", x.isProper(), true);
                for (int rights = 1; rights <= 15; rights++) {
                    x.setSide(true, rights);
                    Check.same("rights " + rights + " on " + files + " files", x.isProper(), false);
                }
            }
        }
    }

    /** "Two positions are the same if all these are": each of them alone makes another position. */
    private static void samePositions() {
        String[] papers = {
            HOME + " w KQkq -", HOME + " b KQkq -", HOME + " w Qkq -", HOME + " w Kkq -", HOME + " w KQq -",
            HOME + " w KQk -", HOME + " w - -", "r3k2r/8/8/8/8/8/8/R2QK2R w KQkq -",
            "r3k2r/8/8/8/8/8/8/R2BK2R w KQkq -", "r3k2r/8/8/8/8/8/8/R2bK2R w KQkq -",
            "r3k2r/8/8/8/8/8/N7/R3K2R w KQkq -", "r3k2r/8/8/8/8/8/1N6/R3K2R w KQkq -",
            "r3k2r/8/8/1pPp4/8/8/8/R3K2R w KQkq b6", "r3k2r/8/8/1pPp4/8/8/8/R3K2R w KQkq d6",
            "r3k2r/8/8/1pPp4/8/8/8/R3K2R w KQkq -",
        };
        OpeningsCabinet x = Check.at(papers[0]);
        for (int i = 0; i < papers.length; i++) {
            Check.paper(x, papers[i]);
            Check.same("no game passes through " + papers[i], x.count(0), 0);
            Check.same("its number", x.addGame(0, 0, 1900, 1), i);
            Check.same("its own game passes through " + papers[i], x.count(0), 1);
            Check.same("it is new", x.firstNew(0, i), 0);
            Check.same("different positions", x.positionCount(0), i + 1);
            // The second way must part them as well.
            Check.same("errors with " + papers[i], x.errors(), 0);
        }
        Check.paper(x, papers[0]);
        x.addGame(0, 0, 1900, 1);
        Check.same("two games pass through the same one", x.count(0), 2);
        Check.same("it is not new", x.firstNew(0, papers.length), -1);
        Check.same("different positions", x.positionCount(0), papers.length);
    }
}
