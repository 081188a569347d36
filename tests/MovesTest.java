/** Promises 19 to 28: moves, their numbers and letters, the game and its states. */
public final class MovesTest {
    private static final Class<IllegalStateException> STATE = IllegalStateException.class;
    private static final Class<IndexOutOfBoundsException> INDEX = IndexOutOfBoundsException.class;

    public static void main(String[] args) {
        numbers();
        promotions();
        castlings();
        lostRights();
        takingsInPassing();
        letters();
        firstSteps();
        wrongMoves();
        playing();
        states();
        mostMoves();
        Check.end("MovesTest");
    }

    private static void lettersAre(String paper, String due) {
        Check.same("moves of " + paper, Check.allLetters(Check.at(paper)), due);
    }

    /** From, to and what becomes of all moves. */
    private static String codes(OpeningsCabinet x) {
        StringBuilder all = new StringBuilder();
        for (int move = 0; move < x.moveCount(); move++) {
            all.append(x.moveFrom(move)).append('-').append(x.moveTo(move));
            if (x.moveBecomes(move) != 0) {
                all.append('=').append(x.moveBecomes(move));
            }
            all.append(' ');
        }
        return all.toString();
    }

    private static void numbers() {
        Check.same("moves of the start", codes(new OpeningsCabinet()),
                "1-16 1-18 6-21 6-23 8-16 8-24 9-17 9-25 10-18 10-26 11-19 11-27 12-20 12-28 13-21 13-29 "
                + "14-22 14-30 15-23 15-31 ");
        Check.same("count of the start", new OpeningsCabinet().moveCount(), 20);
        lettersAre("4k3/8/8/8/8/8/8/4K3 w - -", "Kd1 Kf1 Kd2 Ke2 Kf2");
        lettersAre("4k3/8/8/8/8/8/8/4K3 b - -", "Kd7 Ke7 Kf7 Kd8 Kf8");
        Check.same("moves without any", Check.at("k7/2Q5/8/8/8/8/8/4K3 b - -").moveCount(), 0);
    }

    private static void promotions() {
        OpeningsCabinet x = Check.at("1n2k3/P7/8/8/8/8/p7/1N2K3 w - -");
        Check.same("promotions of White", codes(x).substring(0, codes(x).indexOf("48-56")),
                "1-11 1-16 1-18 4-3 4-5 4-11 4-12 4-13 ");
        Check.same("the end", codes(x).substring(codes(x).indexOf("48-56")),
                "48-56=2 48-56=3 48-56=4 48-56=5 48-57=2 48-57=3 48-57=4 48-57=5 ");
        int first = x.moveCount() - 8;
        Check.same("letters", Check.letters(x, first) + Check.letters(x, first + 3) + Check.letters(x, first + 4)
                + Check.letters(x, first + 6), "a8=Qa8=Naxb8=Q+axb8=B");
        x.play(first + 5);
        Check.same("a rook stands there", x.pieceAt(57), 3);
        Check.same("the pawn is gone", x.pieceAt(48), 0);
        OpeningsCabinet y = Check.at("1n2k3/P7/8/8/8/8/p7/1N2K3 b - -");
        Check.same("promotions of Black", codes(y).substring(0, 32), "8-0=2 8-0=3 8-0=4 8-0=5 8-1=2 8-");
        y.play(3);
        Check.same("a black knight stands there", y.pieceAt(0), 11);
    }

    private static void castlings() {
        lettersAre("3k4/8/8/8/8/8/8/R3K2R w K -", "Rb1 Rc1 Rd1+ Ra2 Ra3 Ra4 Ra5 Ra6 Ra7 Ra8+ Kd1 Kf1 O-O Kd2 Ke2 Kf2 "
                + "Rf1 Rg1 Rh2 Rh3 Rh4 Rh5 Rh6 Rh7 Rh8+");
        castles("r3k2r/8/8/8/8/8/8/R3K2R w KQkq -", "O-O-O O-O");
        castles("r3k2r/8/8/8/8/8/8/R3K2R b KQkq -", "O-O-O O-O");
        castles("r3k2r/8/8/8/8/8/8/R3K2R w Kkq -", "O-O");
        castles("r3k2r/8/8/8/8/8/8/R3K2R b KQq -", "O-O-O");
        castles("r3k2r/8/8/8/8/8/8/R3K2R w kq -", "");
        castles("4k3/8/8/8/8/8/8/RN2K1NR w KQ -", "");
        castles("4k3/8/8/8/8/8/8/R1B1KB1R w KQ -", "");
        castles("4k3/8/8/8/8/8/8/R2QK2R w KQ -", "O-O");
        castles("4k3/8/8/8/8/8/4r3/R3K2R w KQ -", "");
        castles("4kr2/8/8/8/8/8/8/R3K2R w KQ -", "O-O-O");
        castles("4k1r1/8/8/8/8/8/8/R3K2R w KQ -", "O-O-O");
        castles("4k2r/8/8/8/8/8/8/R3K2R w KQ -", "O-O-O O-O");
        castles("3rk3/8/8/8/8/8/8/R3K2R w KQ -", "O-O");
        castles("2r1k3/8/8/8/8/8/8/R3K2R w KQ -", "O-O");
        castles("1r2k3/8/8/8/8/8/8/R3K2R w KQ -", "O-O-O O-O");
        castles("r3k3/8/8/8/8/8/8/R3K2R w KQ -", "O-O-O O-O");
        castles("4k3/8/8/8/8/8/6p1/R3K2R w KQ -", "O-O-O");
        castles("r3k2r/8/8/R3K2R w KQkq -", "O-O-O O-O");
        castles("r3k2r/1pp2pp1/1PP2PP1/R3K2R w KQkq -", "O-O-O O-O");
        castles("r3k2r/1pp2pp1/1PP2PP1/R3K2R b KQkq -", "O-O-O O-O");
        OpeningsCabinet x = Check.at("r3k2r/8/8/8/8/8/8/R3K2R w KQkq -");
        Check.moves(x, "O-O");
        Check.same("short", Check.paper(x), "r3k2r/8/8/8/8/8/8/R4RK1 b kq -");
        Check.moves(x, "O-O-O");
        Check.same("long", Check.paper(x), "2kr3r/8/8/8/8/8/8/R4RK1 w - -");
        Check.same("check by castling", lastLetters("5k2/8/8/8/8/8/8/4K2R w K -", "O-O"), "O-O+");
    }

    private static void castles(String paper, String due) {
        StringBuilder found = new StringBuilder();
        for (String letters : Check.allLetters(Check.at(paper)).split(" ")) {
            if (letters.startsWith("O")) {
                found.append(found.length() > 0 ? " " : "").append(letters.replace("+", ""));
            }
        }
        Check.same("castlings of " + paper, found.toString(), due);
    }

    /** The letters of a move as they are written. */
    private static String lastLetters(String paper, String move) {
        OpeningsCabinet x = Check.at(paper);
        for (String letters : Check.allLetters(x).split(" ")) {
            if (letters.startsWith(move)) {
                return letters;
            }
        }
        return "none";
    }

    private static void lostRights() {
        String both = "r3k2r/8/8/8/8/8/8/R3K2R";
        lost(both + " w KQkq -", "Ke2", 12);
        lost(both + " b KQkq -", "Ke7", 3);
        lost(both + " w KQkq -", "O-O-O", 12);
        lost(both + " w KQkq -", "Ra2", 13);
        lost(both + " w KQkq -", "Rh2", 14);
        lost(both + " b KQkq -", "Ra7", 7);
        lost(both + " b KQkq -", "Rh7", 11);
        lost(both + " w KQkq -", "Rxa8+", 5);
        lost(both + " w KQkq -", "Rxh8+", 10);
        lost(both + " b KQkq -", "Rxa1+", 5);
        lost("r3k2r/1P6/8/8/8/8/8/R3K2R w KQkq -", "bxa8=Q+", 7);
        lost("r3k2r/8/8/8/8/8/6n1/R3K2R w KQkq -", "Kf2", 12);
        lost("r3k2r/8/8/8/8/8/8/R3K2R w KQkq -", "Rg1", 14);
        lost("r3k2r/p7/8/R3K2R w KQkq -", "Rxa3", 13);
        lost("r3k2r/8/4P3/R3K2R b KQkq -", "Rxa1+", 5);
    }

    private static void lost(String paper, String move, int rights) {
        OpeningsCabinet x = Check.at(paper);
        Check.moves(x, move);
        Check.same("rights after " + move + " in " + paper, x.rights(), rights);
        x.takeBack();
        Check.same("the position taken back", Check.paper(x), paper);
    }

    private static void takingsInPassing() {
        OpeningsCabinet x = Check.at("4k3/3p4/8/4P3/8/8/8/4K3 b - -");
        Check.moves(x, "d5");
        Check.same("passing square", x.passingSquare(), 43);
        Check.same("moves", Check.allLetters(x), "Kd1 Kf1 Kd2 Ke2 Kf2 exd6 e6");
        Check.moves(x, "exd6");
        Check.same("paper", Check.paper(x), "4k3/8/3P4/8/8/8/8/4K3 b - -");
        x.takeBack();
        Check.moves(x, "Ke2 Ke7");
        Check.same("it is too late", Check.allLetters(x).contains("exd6"), false);
        // Both pawns would leave the rank, so that the rook attacks the king.
        OpeningsCabinet y = Check.at("8/8/8/8/R2pP2k/8/8/4K3 b - e3");
        Check.same("a pin along the rank", Check.allLetters(y).contains("dxe3"), false);
        // The pawn that gave check is taken in passing.
        OpeningsCabinet z = Check.at("8/8/8/2k5/3Pp3/8/8/4K3 b - d3");
        Check.same("check by the pawn", z.checkers(), 1);
        Check.same("moves", Check.allLetters(z), "exd3 Kb4 Kc4 Kxd4 Kb5 Kd5 Kb6 Kc6 Kd6");
        Check.same("two that can take", Check.allLetters(Check.at("4k3/8/8/3PpP2/8/8/8/4K3 w - e6")),
                "Kd1 Kf1 Kd2 Ke2 Kf2 d6 dxe6 fxe6 f6");
        Check.same("an opened row behind", lastLetters("8/8/8/K1Pp3r/8/8/8/7k w - d6", "cxd6"),
                "none");
        // What stands behind the goal of a move that takes nothing in passing stays there.
        Check.same("a knight keeps hiding the king", lastLetters("4k3/8/8/1n1pP3/KNP4r/8/8/8 w - d6", "cxb5"), "cxb5");
        Check.same("a pawn keeps hiding the passing square", lastLetters("7k/8/2K5/3pP3/8/8/8/3r4 w - d6", "Kd6"), "Kd6");
    }

    private static void letters() {
        Check.same("by file", lastLetters("6k1/8/8/8/8/5K2/8/R6R w - -", "Rad1"), "Rad1");
        Check.same("by rank", lastLetters("6k1/R7/8/8/8/5K2/8/R7 w - -", "R1a4"), "R1a4");
        Check.same("three queens", only(Check.at("8/Q7/8/5k2/8/7K/8/Q5Q1 w - -"), "d4"), "Qa1d4 Qgd4 Q7d4");
        // Three knights to one square: one tells its file, one its rank, one both.
        OpeningsCabinet x = Check.at("7k/8/1N3N2/8/1N6/8/8/K7 w - -");
        Check.same("knights to d5", only(x, "d5"), "N4d5 Nb6d5 Nfd5");
        OpeningsCabinet y = Check.at("7k/8/8/8/N7/8/N7/K7 w - -");
        Check.same("knights to c3", only(y, "c3"), "N2c3 N4c3");
        // A knight that is pinned has no move, so the other one needs no file.
        OpeningsCabinet z = Check.at("4r2k/8/8/8/8/2N1N3/8/4K3 w - -");
        Check.same("a pinned knight", only(z, "d5"), "Nd5");
        Check.same("taking by file", lastLetters("7k/8/8/3p4/8/2N1N3/8/K7 w - -", "Ncx"), "Ncxd5");
        Check.same("pawn takes", lastLetters("7k/8/8/3p4/2P1P3/8/8/K7 w - -", "exd5"), "exd5");
        Check.same("mate", lastLetters("6k1/5ppp/8/8/8/8/8/K2R4 w - -", "Rd8"), "Rd8#");
        Check.same("check", lastLetters("6k1/5pp1/8/8/8/8/8/K2R4 w - -", "Rd8"), "Rd8+");
        Check.same("mate by promotion", lastLetters("7k/P5pp/8/8/8/8/8/K7 w - -", "a8=R"), "a8=R#");
        Check.same("mate with the taken piece", lastLetters("1r5k/P5pp/8/8/8/8/8/K7 w - -", "axb8=Q"), "axb8=Q#");
        Check.same("stalemate has no sign", lastLetters("k7/8/8/2Q5/8/8/8/K7 w - -", "Qc7"), "Qc7");
        lettersAre("4k3/8/8/8/8/8/3p4/4K3 w - -", "Kd1 Kf1 Kxd2 Ke2 Kf2");
        OpeningsCabinet w = new OpeningsCabinet();
        Check.same("length of the letters", w.writeMove(1), 3);
        Check.same("letters", Check.output(w, 3), "Nc3");
        Check.same("length of e4", w.writeMove(13), 2);
    }

    /** The letters of the moves to a square. */
    private static String only(OpeningsCabinet x, String square) {
        StringBuilder found = new StringBuilder();
        for (String letters : Check.allLetters(x).split(" ")) {
            if (letters.replace("+", "").endsWith(square)) {
                found.append(found.length() > 0 ? " " : "").append(letters);
            }
        }
        return found.toString();
    }

    private static void firstSteps() {
        lettersAre("k3/3p/4/P3/3K w - -", "Kc1 Kc2 Kd2 a3");
        Check.same("five ranks", lastLetters("k3/3p/4/P3/3K w - -", "a4"), "none");
        Check.same("six ranks", lastLetters("k3/3p/4/4/P3/3K w - -", "a4"), "a4");
        Check.same("six ranks, Black", lastLetters("k3/3p/4/4/P3/3K b - -", "d3"), "d3");
        Check.same("a piece on the second square", lastLetters("k3/3p/r3/4/P3/3K w - -", "a4"), "none");
        Check.same("a piece on the first square", lastLetters("k3/3p/4/r3/P3/3K w - -", "a4"), "none");
        Check.same("not from the third rank", lastLetters("4k3/8/8/8/8/P7/8/4K3 w - -", "a5"), "none");
        OpeningsCabinet x = Check.at("k3/1p2/4/4/P3/3K b - -");
        Check.moves(x, "b3");
        Check.same("a lone step", x.passingSquare(), -1);
        OpeningsCabinet y = Check.at("k3/1p2/4/P3/4/3K b - -");
        Check.moves(y, "b3");
        Check.same("the passed square on six ranks", y.passingSquare(), 13);
        Check.moves(y, "axb4");
        Check.same("taken in passing", Check.paper(y), "k3/4/1P2/4/4/3K b - -");
    }

    private static void wrongMoves() {
        OpeningsCabinet x = new OpeningsCabinet();
        for (int move : new int[] {-1, 20, 1728, Integer.MIN_VALUE, Integer.MAX_VALUE}) {
            Check.refuses("moveFrom " + move, INDEX, () -> x.moveFrom(move));
            Check.refuses("moveTo " + move, INDEX, () -> x.moveTo(move));
            Check.refuses("moveBecomes " + move, INDEX, () -> x.moveBecomes(move));
            Check.refuses("writeMove " + move, INDEX, () -> x.writeMove(move));
            Check.refuses("play " + move, INDEX, () -> x.play(move));
        }
        Check.paper(x);
        Check.refuses("writeMove 20", INDEX, () -> x.writeMove(20));
        Check.same("a refused writeMove keeps the output", x.outputByte(0), (int) 'r');
        x.put(4, 0);
        for (int move : new int[] {0, -1}) {
            Check.refuses("moveFrom, not proper", STATE, () -> x.moveFrom(move));
            Check.refuses("moveTo, not proper", STATE, () -> x.moveTo(move));
            Check.refuses("moveBecomes, not proper", STATE, () -> x.moveBecomes(move));
            Check.refuses("writeMove, not proper", STATE, () -> x.writeMove(move));
            Check.refuses("play, not proper", STATE, () -> x.play(move));
        }
        Check.refuses("moveCount, not proper", STATE, x::moveCount);
        Check.refuses("state, not proper", STATE, x::state);
        Check.same("repetitions, not proper", x.repetitions(), 1);
    }

    private static void playing() {
        OpeningsCabinet x = new OpeningsCabinet();
        Check.refuses("takeBack without moves", STATE, x::takeBack);
        Check.same("e4", x.play(13), OpeningsCabinet.GOING);
        Check.same("madeCount", x.madeCount(), 1);
        Check.same("paper", Check.paper(x), "rnbqkbnr/pppppppp/8/8/4P3/8/PPPP1PPP/RNBQKBNR b KQkq -");
        x.play(0);
        Check.same("takeBack", x.takeBack(), 1);
        Check.same("takeBack", x.takeBack(), 0);
        Check.refuses("takeBack of all", STATE, x::takeBack);
        Check.same("paper", Check.paper(x), "rnbqkbnr/pppppppp/8/8/8/8/PPPPPPPP/RNBQKBNR w KQkq -");
    }

    private static void states() {
        OpeningsCabinet x = new OpeningsCabinet();
        Check.moves(x, "f3 e5 g4");
        Check.same("fool's mate", playLetters(x, "Qh4#"), OpeningsCabinet.MATE);
        Check.same("state", x.state(), OpeningsCabinet.MATE);
        Check.same("no moves", x.moveCount(), 0);
        OpeningsCabinet stale = Check.at("k7/8/8/2Q5/8/8/8/K7 w - -");
        Check.same("stalemate", playLetters(stale, "Qc7"), OpeningsCabinet.STALE);
        dead("4k3/8/8/8/8/8/8/4K3", true);
        dead("4k3/8/8/8/8/8/8/4KB2", true);
        dead("4k3/8/8/8/8/8/8/4KN2", true);
        dead("4kb2/8/8/8/8/8/8/4K3", true);
        dead("4kn2/8/8/8/8/8/8/4K3", true);
        dead("4kb2/8/8/8/8/8/8/4KB2", false);
        dead("4kb2/8/8/8/8/8/8/4KN2", false);
        dead("4k3/8/8/8/8/8/8/3NKN2", false);
        dead("4k3/8/8/8/8/8/P7/4K3", false);
        dead("4k3/8/8/8/8/8/8/4KR2", false);
        dead("4k3/8/8/8/8/8/8/4KQ2", false);
        repeated();
        quiet();
        Check.same("bare kings", Check.at("k7/8/2K5/8/8/8/8/8 b - -").state(), OpeningsCabinet.DEAD);
        Check.same("stalemate stands ahead of dead", Check.at("k7/8/1K6/4B3/8/8/8/8 b - -").state(),
                OpeningsCabinet.STALE);
    }

    private static void dead(String squares, boolean isDead) {
        int due = isDead ? OpeningsCabinet.DEAD : OpeningsCabinet.GOING;
        Check.same("state of " + squares, Check.at(squares + " w - -").state(), due);
    }

    private static int playLetters(OpeningsCabinet x, String letters) {
        String[] all = Check.allLetters(x).split(" ");
        for (int move = 0; move < all.length; move++) {
            if (all[move].equals(letters)) {
                return x.play(move);
            }
        }
        return -1;
    }

    private static void repeated() {
        OpeningsCabinet x = new OpeningsCabinet();
        Check.moves(x, "Nf3 Nf6 Ng1 Ng8 Nf3 Nf6 Ng1");
        Check.same("before the third time", x.state(), OpeningsCabinet.GOING);
        Check.same("the third time", playLetters(x, "Ng8"), OpeningsCabinet.REPEATED);
        Check.same("repetitions", x.repetitions(), 3);
        Check.same("the third time of another one", playLetters(x, "Nf3"), OpeningsCabinet.REPEATED);
        Check.same("a new one", playLetters(x, "e6"), OpeningsCabinet.GOING);
        Check.same("repetitions of a new one", x.repetitions(), 1);
        x.takeBack();
        x.startHere();
        Check.same("startHere forgets", x.repetitions(), 1);
        Check.same("state then", x.state(), OpeningsCabinet.GOING);
        // With other rights, or a passing square, the position is another one.
        OpeningsCabinet y = Check.at("4k3/8/8/8/8/8/8/4K2R w K -");
        Check.moves(y, "Rg1 Kd8 Rh1 Ke8");
        Check.same("without the right", y.repetitions(), 1);
        OpeningsCabinet z = Check.at("4k3/8/8/3pP3/8/8/8/4K3 w - d6");
        Check.moves(z, "Kd1 Kd8 Ke1 Ke8");
        Check.same("without the passing square", z.repetitions(), 1);
        Check.moves(z, "Kd1 Kd8 Ke1 Ke8");
        Check.same("again", z.repetitions(), 2);
    }

    private static void quiet() {
        // Rooks walk, so that no position stands three times.
        OpeningsCabinet x = Check.at("4k2r/8/8/8/8/8/8/R3K3 w - -");
        String walk = "Ra2 Rh7 Ra3 Rh6 Ra4 Rh5 Ra5 Rh4 Ra6 Rh3 Ra7 Rh2 Rb7 Rg2 Rb6 Rg3 Rb5 Rg4 Rb4 Rg5 Rb3 Rg6 Rb2 Rg7 "
                + "Rc2 Rf7 Rc3 Rf6 Rc4 Rf5 Rc5 Rf4 Rc6 Rf3 Rc7 Rf2 Rd7 Rg2 Rd6";
        Check.same("39 moves", Check.moves(x, walk), 39);
        Check.same("39 quiet ones", x.state(), OpeningsCabinet.GOING);
        Check.same("the 40th", playLetters(x, "Rg3"), OpeningsCabinet.QUIET);
        Check.same("the 41st", playLetters(x, "Rd5"), OpeningsCabinet.QUIET);
        x.takeBack();
        x.takeBack();
        Check.same("39 again", x.state(), OpeningsCabinet.GOING);
        x.startHere();
        playLetters(x, "Rg3");
        Check.same("startHere begins anew", x.state(), OpeningsCabinet.GOING);
        OpeningsCabinet y = Check.at("4k2r/4p3/8/8/8/8/4P3/R3K3 w - -");
        Check.moves(y, "Rb1 Rg8 Ra1 Rh8 e4 e5");
        Check.moves(y, walk);
        Check.same("39 quiet ones behind a move of a pawn", y.state(), OpeningsCabinet.GOING);
        Check.same("the 40th behind it", playLetters(y, "Rg3"), OpeningsCabinet.QUIET);
        OpeningsCabinet z = Check.at("4k2r/8/8/8/8/8/7p/R3K3 w - -");
        String first = "Ra2 Rh7 Ra3 Rh6 Ra4 Rh5 Ra5 Rh4 Ra6 Rh3 Ra7 Rh4 Rb7 Rg4 Rb6 Rg3 Rb5 Rg4 Rb4 Rg5 Rb3 Rg6 Rb2 Rg7 "
                + "Rxh2 Rf7 Rc2 Rf6 Rc4 Rf5 Rc5 Rf4 Rc6 Rf3 Rc7 Rf2 Rd7 Rg2 Rd6 Rg3 Rd5";
        Check.same("41 moves with a taking", Check.moves(z, first), 41);
        Check.same("the taking ends the row", z.state(), OpeningsCabinet.GOING);
    }

    private static void mostMoves() {
        OpeningsCabinet x = new OpeningsCabinet();
        for (int i = 0; i < 20; i++) {
            Check.same("four moves", Check.moves(x, "Nf3 Nf6 Ng1 Ng8"), 4);
        }
        Check.same("80 moves", x.madeCount(), 80);
        Check.refuses("the 81st", STATE, () -> x.play(0));
        Check.refuses("no such move, but 80 were made", STATE, () -> x.play(-1));
        Check.same("still 80", x.madeCount(), 80);
        Check.same("repetitions", x.repetitions(), 21);
        x.takeBack();
        Check.same("the 80th again", x.play(0) >= 0, true);
    }
}
