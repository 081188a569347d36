/** Promises 30 to 34: the text, its faults, and reading its moves. */
public final class TextsTest {
    private static final Class<IllegalArgumentException> ARGUMENT = IllegalArgumentException.class;
    private static final Class<IllegalStateException> STATE = IllegalStateException.class;

    public static void main(String[] args) {
        typing();
        soundTexts();
        faults();
        faultsOfVariations();
        marks();
        lines();
        room();
        readings();
        Check.end("TextsTest");
    }

    private static void typing() {
        OpeningsCabinet x = new OpeningsCabinet();
        Check.same("no byte", x.type(0), 0);
        Check.same("two bytes", x.type(Check.packed("e4")), 2);
        Check.same("bytes with zeros between", x.type(0x0020006500350000L), 5);
        Check.same("the text", x.fault(), -1);
        Check.same("the bytes stand in their order", x.readMoves(), 2);
        Check.same("eight bytes", x.type(0x7E7E7E7E20202020L), 8);
        Check.refuses("byte 31", ARGUMENT, () -> x.type(31));
        Check.refuses("byte 127", ARGUMENT, () -> x.type(0x417F41L));
        Check.refuses("byte 128", ARGUMENT, () -> x.type(0x80L << 56));
        Check.refuses("byte 255", ARGUMENT, () -> x.type(-1));
        Check.refuses("byte 1 in the middle", ARGUMENT, () -> x.type(0x4100014100L));
        Check.same("clearText", x.clearText(), 8);
        Check.same("clearText of nothing", x.clearText(), 0);
        for (int i = 1; i <= 62; i++) {
            Check.same("length", x.type(0x2020202020202020L), 8 * i);
        }
        Check.same("three more", x.type(0x202020L), 499);
        Check.refuses("501 bytes", STATE, () -> x.type(0x2020));
        Check.same("500 bytes", x.type(0x20), 500);
        Check.refuses("one more", STATE, () -> x.type(0x20));
        Check.refuses("one more that is none", ARGUMENT, () -> x.type(0x1F));
        Check.same("no more", x.type(0), 500);
        Check.same("blanks alone have no fault", x.fault(), -1);
        Check.same("clearText of all", x.clearText(), 500);
    }

    private static int fault(OpeningsCabinet x, String text) {
        Check.type(x, text);
        return x.fault();
    }

    private static void sound(String text) {
        Check.same("fault of <" + text + ">", fault(new OpeningsCabinet(), text), OpeningsCabinet.NONE);
    }

    /** The fault stands where the sign ^ is put into the text. */
    private static void faulty(String marked) {
        int place = marked.indexOf('^');
        String text = marked.substring(0, place) + marked.substring(place + 1);
        OpeningsCabinet x = new OpeningsCabinet();
        Check.same("fault of <" + text + ">", fault(x, text), place);
        Check.same("the text is kept by fault()", x.clearText(), text.length());
        Check.type(x, text);
        Check.refuses("readMoves of <" + text + ">", ARGUMENT, x::readMoves);
        Check.same("the text behind it", x.clearText(), 0);
        Check.same("no move is made", x.madeCount(), 0);
    }

    private static void soundTexts() {
        sound("");
        sound(" ");
        sound("e4");
        sound("   e4   e5   ");
        sound("1. e4 1... e5 2. Nf3");
        sound("7. e4 999. e5 0. Nf3 007... Nf6");
        sound("1-0");
        sound("*");
        sound(" 1/2-1/2 ");
        sound("e4 0-1");
        sound("e4 e5 *  ");
        sound("e4{a note}e5");
        sound("e4 { ( ) { e5 }{}{}e5 {x}");
        sound("e4(d4)e5");
        sound("e4 ( d4 d5 ) ( c4 ) e5 (c5) (e6)");
        sound("e4 {n} (1. d4 {m} d5 {o} (Nf6)) {p} e5");
        sound("e4 (d4 (c4 (b4 (a4)))) e5");
        sound("e4 (d4)*");
        sound("e4 e5 Nf3 Nc6 Bb5 a6 Ba4 Nf6 O-O Be7 Re1 b5 Bb3 d6 c3 O-O 1/2-1/2");
    }

    private static void faults() {
        faulty("^e5");
        faulty("e4 ^e4");
        faulty("^x");
        faulty("^1.e4");
        faulty("^1.. e4");
        faulty("^1.... e4");
        faulty("^1000. e4");
        faulty("^. e4");
        faulty("^1 e4");
        faulty("^1.a. e4");
        faulty("1. ^2. e4");
        faulty("1. ^1-0");
        faulty("1. ^*");
        faulty("1. ^{a}");
        faulty("e4 1. ^(d4)");
        faulty("1.^");
        faulty("e4 1...  ^");
        faulty("1-0 ^e4");
        faulty("* ^*");
        faulty("* ^1.");
        faulty("e4 * ^{note}");
        faulty("e4 * ^(d4)");
        faulty("^*e4");
        faulty("^1-1");
        faulty("^1-00");
        faulty("^1/2");
        faulty("^{note} e4");
        faulty("^(e4)");
        faulty("^)");
        faulty("^}");
        faulty("e4^}");
        faulty("e4 {note} ^} e5");
        faulty("e4 {note^");
        faulty("e4 {^");
        faulty("^{note");
        faulty("e4 e5 {n  ^");
        faulty("^e4-e5");
        faulty("^e2e4");
        faulty("^E4");
        faulty("^Nf3g1");
        faulty("^Ngf3");
        faulty("^N1f3");
        faulty("^Nxf3");
        faulty("^0-0");
        faulty("^O-O");
        faulty("^e4.");
        faulty("^e4e5");
        faulty("e4 ^e5*");
        faulty("^Nf3Nf3Nf3Nf3");
        faulty("^+");
        faulty("^#");
        faulty("^e");
    }

    private static void faultsOfVariations() {
        faulty("e4 (^)");
        faulty("e4 (^e5)");
        faulty("e4 (^(d4))");
        faulty("e4 (^{note} d4)");
        faulty("e4 (1. ^) e5");
        faulty("e4 (^");
        faulty("e4 (d4^");
        faulty("e4 (d4 {n}  ^");
        faulty("e4 (d4 1...^");
        faulty("e4 (d4)^)");
        faulty("e4 (d4) ^d5x");
        faulty("e4 (^*)");
        faulty("e4 (d4 ^1-0)");
        faulty("e4 e5 (d5) (^d4)");
        faulty("e4 (d4 d5 (e5) (^e4)) e5");
        faulty("e4 (d4 (c4 (b4 (a4 ^(h4)))))");
        faulty("e4 (d4 (c4 (b4 (a4))))^)");
        faulty("e4 (d4 ^}");
        faulty("e4 (d4) 1. ^(c4)");
        faulty("e4 (d4) (^)");
        faulty("e4 (d4) (^{note} c4)");
        faulty("e4 (d4) (^(c4) c4)");
        faulty("e4 (d4 (c4) d5 (^) e5)");
    }

    /** + and # can be left out, but none can be added. */
    private static void marks() {
        OpeningsCabinet x = new OpeningsCabinet();
        Check.same("a check told", fault(x, "e4 f6 Qh5+ g6"), -1);
        Check.same("a check not told", fault(x, "e4 f6 Qh5 g6"), -1);
        Check.same("a check told as mate", fault(x, "e4 f6 Qh5# g6"), 6);
        Check.same("no check", fault(x, "e4+"), 0);
        Check.same("two signs", fault(x, "e4 f6 Qh5++"), 6);
        Check.same("mate told", fault(x, "f3 e5 g4 Qh4#"), -1);
        Check.same("mate not told", fault(x, "f3 e5 g4 Qh4"), -1);
        Check.same("mate told as check", fault(x, "f3 e5 g4 Qh4+"), 9);
        Check.same("a move behind mate", fault(x, "f3 e5 g4 Qh4# a3"), 14);
        Check.same("a result behind mate", fault(x, "f3 e5 g4 Qh4# 0-1"), -1);
        Check.same("a variation", fault(x, "e4 (d4)"), -1);
        Check.same("the variation of an earlier text is no part of the next one", fault(x, "e4 ()"), 4);
        OpeningsCabinet y = Check.at("1r2k3/P7/8/8/8/8/8/4K3 w - -");
        Check.same("a promotion with check", fault(y, "axb8=Q+"), -1);
        Check.same("a promotion with check not told", fault(y, "axb8=Q"), -1);
        Check.same("a promotion without its piece", fault(y, "axb8"), 0);
        Check.same("a promotion with a sign too many", fault(y, "a8=N+"), 0);
        Check.same("a promotion to a king", fault(y, "a8=K"), 0);
        OpeningsCabinet z = Check.at("8/Q7/8/5k2/8/7K/8/Q5Q1 w - -");
        Check.same("all of a name", fault(z, "Qa1d4"), -1);
        Check.same("too little of a name", fault(z, "Qad4"), 0);
        Check.same("too much of a name", fault(z, "Qg1d4"), 0);
        Check.same("the least of a name", fault(z, "Qgd4"), -1);
        OpeningsCabinet w = Check.at("5k2/8/8/8/8/8/8/4K2R w K -");
        Check.same("castling with check", fault(w, "O-O+"), -1);
        Check.same("castling with check not told", fault(w, "O-O"), -1);
        Check.same("castling long", fault(w, "O-O-O"), 0);
    }

    private static void lines() {
        OpeningsCabinet x = new OpeningsCabinet();
        Check.same("moves of the line", Check.moves(x, "1. e4 (1. d4 d5 (1... Nf6 2. c4) 2. c4) 1... e5 2. Nf3 *"), 3);
        Check.same("moves in variations", x.variationMoves(), 5);
        Check.same("paper", Check.paper(x), "rnbqkbnr/pppp1ppp/8/4p3/4P3/5N2/PPPP1PPP/RNBQKB1R b KQkq -");
        Check.same("a text from the present position", Check.moves(x, "Nc6 (Nf6) {n} (d6) Bb5"), 2);
        Check.same("moves in variations then", x.variationMoves(), 2);
        Check.same("a move for the other side", fault(x, "Nf3"), 0);
        Check.same("a text without moves", Check.moves(x, " 1-0 "), 0);
        Check.same("no moves in variations", x.variationMoves(), 0);
        Check.moves(x, "a6 (b6)");
        Check.type(x, "Ba4 (Bc4) x");
        Check.refuses("a faulty text", ARGUMENT, x::readMoves);
        Check.same("moves in variations of the latest sound one", x.variationMoves(), 1);
        Check.same("fault() counts nothing", fault(x, "Ba4 (Bc4 (Bxc6))"), -1);
        Check.same("still of the latest sound one", x.variationMoves(), 1);
        x.clearText();
        Check.same("made", x.madeCount(), 6);
        x.takeBack();
        Check.same("takeBack keeps the count", x.variationMoves(), 1);
    }

    private static void room() {
        OpeningsCabinet x = new OpeningsCabinet();
        String four = "Nf3 Nf6 Ng1 Ng8 ";
        for (int i = 0; i < 19; i++) {
            Check.moves(x, four);
        }
        Check.moves(x, "Nf3 Nf6 Ng1");
        Check.same("room for one", fault(x, "Ng8 *"), -1);
        Check.same("no room for two", fault(x, "Ng8 e4"), 4);
        Check.same("a number ahead of it can stand", fault(x, "Ng8 1. e4"), 7);
        Check.same("a number at the end", fault(x, "Ng8 1. "), 7);
        Check.same("variations have room", fault(x, "Ng8 (e5 e4 d5 d4 (d3 c5 c4)) {n}"), -1);
        Check.same("a text of five", fault(x, "Ng8 1."), 6);
        Check.moves(x, "Ng8 (e5 e4)");
        Check.same("no room at all", fault(x, "e4"), 0);
        Check.same("a number without room", fault(x, "1. e4"), 3);
        Check.same("a result without room", fault(x, "1-0"), -1);
        Check.same("nothing without room", fault(x, ""), -1);
        Check.type(x, "e4");
        Check.refuses("reading without room", ARGUMENT, x::readMoves);
        OpeningsCabinet y = new OpeningsCabinet();
        StringBuilder long80 = new StringBuilder();
        for (int i = 0; i < 20; i++) {
            long80.append(four);
        }
        Check.same("80 moves", fault(y, long80.toString()), -1);
        Check.same("81 moves", fault(y, long80 + "e4"), 320);
        Check.same("80 moves made at once", Check.moves(y, long80.toString()), 80);
    }

    private static void readings() {
        OpeningsCabinet x = new OpeningsCabinet();
        Check.same("nothing", x.readMoves(), 0);
        Check.type(x, "e4 e5");
        Check.same("two", x.readMoves(), 2);
        Check.same("the text is empty", x.clearText(), 0);
        Check.same("the game", x.madeCount(), 2);
        Check.same("takeBack", x.takeBack(), 1);
        OpeningsCabinet y = new OpeningsCabinet();
        y.put(4, 0);
        Check.type(y, "e4");
        Check.refuses("fault, not proper", STATE, y::fault);
        Check.refuses("readMoves, not proper", STATE, y::readMoves);
        Check.same("the text then", y.clearText(), 0);
        Check.type(y, "nothing of sense {");
        Check.refuses("readMoves of a faulty text, not proper", STATE, y::readMoves);
        Check.same("the text then", y.clearText(), 0);
        Check.refuses("fault of nothing, not proper", STATE, y::fault);
    }
}
