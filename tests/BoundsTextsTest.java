import java.util.Collections;

/** The bounds of section 6 and of promises 30 to 34: bytes, tokens, variations, room, and where a fault stands. */
public final class BoundsTextsTest {
    private static final Class<IllegalArgumentException> ARGUMENT = IllegalArgumentException.class;
    private static final Class<IllegalStateException> STATE = IllegalStateException.class;
    private static final int NONE = OpeningsCabinet.NONE;

    public static void main(String[] args) {
        bytes();
        placesOfBytes();
        lengthsOfTexts();
        emptiedTexts();
        emptyTexts();
        blanks();
        tokens();
        numbers();
        numbersInTheirPlaces();
        results();
        resultsInTheirPlaces();
        notes();
        movesOfPositions();
        signsOfMoves();
        depthsOfVariations();
        movesOfVariations();
        positionsOfVariations();
        textsThatEndTooEarly();
        room();
        roomOfVariations();
        movesThatWereRead();
        textBehindReading();
        countsOfVariations();
        fullTexts();
        notProper();
        Check.end("BoundsTextsTest");
    }

    /** The fault stands where the sign ^ is put into the text; without one there is none. */
    private static void fault(OpeningsCabinet x, String marked) {
        int place = marked.indexOf('^');
        String text = marked.replace("^", "");
        Check.type(x, text);
        Check.same("fault of <" + text + ">", x.fault(), place);
        Check.same("the text is kept", x.clearText(), text.length());
    }

    private static void fault(String marked) {
        fault(new OpeningsCabinet(), marked);
    }

    /** "a row of ... bytes from 32 to 126": each byte alone, in the lowest and in the highest place. */
    private static void bytes() {
        for (int sign = 1; sign <= 255; sign++) {
            OpeningsCabinet x = new OpeningsCabinet();
            long low = sign;
            long high = (long) sign << 56;
            if (sign >= 32 && sign <= 126) {
                Check.same("byte " + sign, x.type(low), 1);
                Check.same("byte " + sign + " in the highest place", x.type(high), 2);
                Check.same("two of them", x.type(high | low), 4);
            } else {
                Check.refuses("byte " + sign, ARGUMENT, () -> x.type(low));
                Check.refuses("byte " + sign + " in the highest place", ARGUMENT, () -> x.type(high));
                Check.refuses("byte " + sign + " behind a sound one", ARGUMENT, () -> x.type(low | 0x4100));
                Check.refuses("byte " + sign + " ahead of sound ones", ARGUMENT, () -> x.type(high | 0x4141));
                Check.same("nothing was put behind the text", x.clearText(), 0);
            }
        }
    }

    /** "the bytes of the number that are not 0, the highest one first", up to 8 of them, in any places. */
    private static void placesOfBytes() {
        for (int set = 0; set < 256; set++) {
            OpeningsCabinet x = new OpeningsCabinet();
            long number = 0;
            StringBuilder text = new StringBuilder();
            for (int place = 7; place >= 0; place--) {
                if ((set >> place & 1) != 0) {
                    char sign = "K7/8b -w".charAt(place);
                    number |= (long) sign << 8 * place;
                    text.append(sign);
                }
            }
            long typed = number;
            Check.same("length with the places " + set, x.type(typed), text.length());
            Check.same("once more", x.type(typed), 2 * text.length());
        }
        // In their order: the bytes of "e4 e5" with zeros ahead, between and behind.
        OpeningsCabinet x = new OpeningsCabinet();
        x.type(0x0065003400200000L);
        x.type(0x0000000000650035L);
        Check.same("the moves in their order", x.readMoves(), 2);
        Check.same("paper", Check.paper(x), "rnbqkbnr/pppp1ppp/8/4p3/4P3/8/PPPP1PPP/RNBQKBNR w KQkq -");
    }

    /** "at most 500 bytes": 499, 500 and 501, by one byte and by eight. */
    private static void lengthsOfTexts() {
        for (int last = 1; last <= 8; last++) {
            OpeningsCabinet x = new OpeningsCabinet();
            Check.type(x, "x".repeat(500 - last));
            String more = "y".repeat(last);
            if (last < 8) {
                Check.refuses("one too many", STATE, () -> x.type(Check.packed("z" + more)));
            }
            Check.same("the text is as it was", x.type(0), 500 - last);
            Check.same("just enough", x.type(Check.packed(more)), 500);
            Check.refuses("one more", STATE, () -> x.type(0x20));
            Check.refuses("eight more", STATE, () -> x.type(0x2020202020202020L));
            Check.refuses("a wrong byte more", ARGUMENT, () -> x.type(0x7F));
            Check.same("none more", x.type(0), 500);
            Check.same("clearText", x.clearText(), 500);
            Check.same("there is room again", x.type(0x20), 1);
        }
        OpeningsCabinet y = new OpeningsCabinet();
        Check.type(y, "x".repeat(493));
        Check.refuses("eight behind 493", STATE, () -> y.type(0x2020202020202020L));
        Check.same("seven behind 493", y.type(0x20202020202020L), 500);
    }

    /** clearText of no text, of one byte, of a full text. */
    private static void emptiedTexts() {
        OpeningsCabinet x = new OpeningsCabinet();
        Check.same("of no text", x.clearText(), 0);
        x.type(0x20);
        Check.same("of one byte", x.clearText(), 1);
        Check.same("of no text again", x.clearText(), 0);
        Check.type(x, "x".repeat(500));
        Check.same("of a full text", x.clearText(), 500);
        Check.same("of no text at last", x.clearText(), 0);
    }

    /** "text = line [ result ]", where the line may have nothing: no text, blanks, a result alone. */
    private static void emptyTexts() {
        for (String text : new String[] {"", " ", "   ", "*", "1-0", " 0-1 ", "  1/2-1/2"}) {
            fault(text);
            OpeningsCabinet x = new OpeningsCabinet();
            Check.same("moves of <" + text + ">", Check.moves(x, text), 0);
            Check.same("moves that were made", x.madeCount(), 0);
        }
    }

    /** "Blanks (32) can stand between all of these, and must where a number, a move or a result follows another ..." */
    private static void blanks() {
        for (String text : new String[] {
            "e4 e5", "e4  e5", "e4     e5     ", " e4", "1. e4", "1.   e4", "e4 *", "e4    *", "e4(d4)e5", "e4 (d4) e5",
            "e4  (  d4  )  e5", "e4{a}e5", "e4 { a } e5", "e4(d4)(c4)e5", "e4{a}{b}e5", "e4(d4{a}(c4)d5)e5", "e4(d4)*",
            "e4{a}1-0", "e4(1. d4)1... e5", "e4{a}1... e5", "e4 (d4)1... e5 0-1", "1. e4(1. d4 1... d5)*",
        }) {
            fault(text);
        }
        for (String text : new String[] {
            "^e4e5", "^1.e4", "^e4*", "^e41-0", "1. ^e4e5", "e4 ^e5*", "e4 ^1...e5", "^1.1. e4", "^*1-0", "e4(^d4d5)",
            "e4{a}^e5Nf3", "e4 ^e5Nf3 Nc6", "e4 1... ^e5*", "^e41. e5",
        }) {
            fault(text);
        }
    }

    /** "A token that begins with none of ( ) { } is as long as possible: up to a blank, one of ( ) { }, or the end." */
    private static void tokens() {
        fault("^e4~");
        fault("^e4|");
        fault("^e4.");
        fault("^e4,e5");
        fault("^[e4]");
        fault("^!");
        fault("^~");
        fault("^|e4");
        fault("e4(d4^}");
        fault("e4^}");
        fault("e4 ^}");
        fault("e4^)");
        fault("e4^)e5");
        fault("e4 e5(^d4)");
        fault("e4 e5(d5)");
        fault("e4(d4)^)");
        fault("e4{}^}");
        // Signs just beside the brackets in the order of bytes are parts of tokens.
        fault("^e4'e5");
        fault("^e4*");
        fault("^e4z");
    }

    /** "1 to 3 digits and one or three dots": 0 and 4 digits, none, two and four dots, and other orders. */
    private static void numbers() {
        for (String number : new String[] {
            "0.", "1.", "9.", "00.", "99.", "000.", "999.", "0...", "1...", "12...", "123...", "5.", "50.", "105.",
        }) {
            fault(number + " e4");
            fault("e4 " + number + " e5");
            fault("e4 e5 " + number + " Nf3 " + number + " Nc6");
        }
        for (String number : new String[] {
            ".", "...", "1", "12", "123", "1234.", "0000.", "1234...", "1..", "1....", "1.....", "1......", "12..",
            "123..", "123....", ".1", ".1.", "1.1", "1.1.", "1..1.", "1.2...", "a.", "1a.", "a1.", "1.a", "-1.", "+1.",
            "1,", "1:", "1;", "/.", ":.", "1/.", "1.,", "1.-", "1./", "1-.", "..", "1.0", "01",
        }) {
            fault("^" + number + " e4");
            fault("e4 ^" + number + " e5");
        }
    }

    /** "[ number ] move": a number stands ahead of a move, and of nothing else. */
    private static void numbersInTheirPlaces() {
        fault("1. ^1. e4");
        fault("1. ^1... e4");
        fault("1. ^*");
        fault("1. ^1-0");
        fault("1. ^{a} e4");
        fault("1.^{a} e4");
        fault("1.^(e4)");
        fault("1.^)");
        fault("1.^}");
        fault("1. ^(e4)");
        fault("1. ^)");
        fault("1. ^}");
        fault("e4 1... ^(d4) e5");
        fault("e4 1... ^{a} e5");
        fault("e4 1... ^1-0");
        fault("e4 (1. ^(c4) d4)");
        fault("e4 (d4 1... ^)");
        fault("1.^");
        fault("1.  ^");
        fault("e4 2...^");
        fault("1. e4 1... e5 77. Nf3");
    }

    /** "A result is one of the tokens 1-0, 0-1, 1/2-1/2 and *", and what is nearly one is none. */
    private static void results() {
        for (String result : new String[] {"1-0", "0-1", "1/2-1/2", "*"}) {
            fault(result);
            fault("e4 " + result);
            fault("e4 " + result + "   ");
            fault("e4(d4)" + result);
            fault("^" + result + result);
            fault("e4 ^" + result + ".");
            fault("e4 ^." + result);
        }
        for (String result : new String[] {
            "1", "0", "1-", "-0", "0-", "-1", "1-1", "0-0", "1-2", "2-0", "1-00", "11-0", "1/2", "1/2-", "1/2-1",
            "1/2-1/", "1/2-1/3", "1/2-1/2-", "0/2-1/2", "2/2-1/2", "1/2+1/2", "1/2-0", "**", "+", ")", "1_0", "1=0",
            "O-1", "1-O",
        }) {
            fault("^" + result);
            fault("e4 ^" + result);
        }
    }

    /** "text = line [ result ]": one, at the end, outside of variations. */
    private static void resultsInTheirPlaces() {
        fault("*^(e4)");
        fault("*^{a}");
        fault("e4 *^)");
        fault("e4 1-0^}");
        fault("* ^e4");
        fault("* ^*");
        fault("1-0 ^0-1");
        fault("e4 * ^e5");
        fault("e4 * ^1... e5");
        fault("e4 * ^1...");
        fault("e4 * ^{a}");
        fault("e4 * ^{a");
        fault("e4 * ^(d4)");
        fault("e4 * ^)");
        fault("e4 * ^}");
        fault("e4 (d4 ^*)");
        fault("e4 (^*)");
        fault("e4 (d4 ^1-0) e5");
        fault("e4 (d4 (c4 ^0-1))");
        fault("e4 (d4) *");
        fault("e4 {a} *");
    }

    /** "note = "{" { any byte but "}" } "}"": nothing in it, each byte in it, and up to the first closing one. */
    private static void notes() {
        fault("e4 {}");
        fault("e4{}{}{}");
        for (char sign = 32; sign <= 126; sign++) {
            for (String text : new String[] {"e4 {?} e5", "e4 {??} e5", "e4 (d4 {?} d5) e5"}) {
                OpeningsCabinet x = new OpeningsCabinet();
                Check.same("a note of " + sign, Check.isSound(x, text.replace('?', sign)), sign != '}');
            }
        }
        fault("e4 {}^} e5");
        fault("e4 {a}^} e5");
        fault("e4 {{} e5");
        fault("e4 {{{{} e5");
        fault("e4 {e5 Nf3} e5 {Nf3} Nf3");
        fault("e4 {e5} ^Nf3");
        fault("e4 {(} e5");
        fault("e4 {)} e5 {1. *} *");
        // A note stands behind a move of its line.
        fault("^{a} e4");
        fault("^{a}");
        fault("^{a");
        fault("1. ^{a");
        fault("e4 (^{a} d4)");
        fault("e4 (^{a");
        fault("e4 (d4 {a}) {b} (c4) {c} e5 {d}");
    }

    /** "A move is a token that is the letters of a move of the position in which it stands": no less and no more. */
    private static void movesOfPositions() {
        fault("^e5");
        fault("^Ke2");
        fault("^O-O");
        fault("^e4e");
        fault("^4");
        fault("^e");
        fault("^ee4");
        fault("^E4");
        fault("^nf3");
        fault("^Pe4");
        fault("^Nbc3");
        fault("^N1c3");
        fault("^Nb1c3");
        fault("Nc3 e5 Nb5 a6 Nc3");
        fault("Nc3 e5 Nb5 a6 ^N5c3");
        fault("^e2-e4");
        fault("^exd5");
        fault("^e4=Q");
        fault("e4 d5 ^ed5");
        fault("e4 d5 ^e4xd5");
        fault("e4 d5 ^d5");
        fault("e4 d5 exd5 ^Qd5");
        fault("e4 d5 exd5 Qxd5");
        fault("^Qa1xb2xx");
        fault("^Nf3Nf3Nf3");
        fault("^" + "N".repeat(100));
        fault("f3 e5 g4 Qh4# ^a3");
        fault("f3 e5 g4 Qh4# 3. ^a3");
        fault("f3 e5 g4 Qh4# 3.^");
        fault("f3 e5 g4 Qh4# {a} (Qf6) 0-1");
        OpeningsCabinet x = Check.at("1r5k/P5pp/8/8/8/8/8/K7 w - -");
        for (String text : new String[] {
            "^a8", "a8=Q", "a8=R", "a8=B", "a8=N", "^a8=K", "^a8=P", "^a8=q", "^a8Q", "^a8=", "^axb8", "axb8=Q#",
            "axb8=Q", "^ab8=Q", "^a7xb8=Q", "axb8=N",
        }) {
            fault(x, text);
        }
        OpeningsCabinet y = Check.at("7k/8/1N3N2/8/1N3N2/8/8/K7 w - -");
        for (String text : new String[] {"^Nd5", "^Nbd5", "^N4d5", "Nb4d5", "^N4bd5", "Nf6d5", "^Nb4-d5", "^Nb4xd5"}) {
            fault(y, text);
        }
        OpeningsCabinet z = Check.at("r3k2r/8/8/8/8/8/8/R3K2R w KQkq -");
        for (String text : new String[] {"O-O", "O-O-O", "^o-o", "^0-0", "^0-0-0",
                "^OO", "^O-", "^O-O-", "^O-O-O-O", "^Kg1", "^Kc1"}) {
            fault(z, text);
        }
    }

    /** "+ or # at the end of the letters can be left out, but none can be added", nor one for the other. */
    private static void signsOfMoves() {
        OpeningsCabinet plain = new OpeningsCabinet();
        OpeningsCabinet check = Check.at("4k3/8/8/8/8/8/8/3RK3 w - -");
        OpeningsCabinet mate = Check.at("k7/8/1K6/8/8/8/8/7R w - -");
        OpeningsCabinet stale = Check.at("k7/8/2K5/8/8/8/8/1Q6 w - -");
        OpeningsCabinet castling = Check.at("5k2/8/8/8/8/8/8/4K2R w K -");
        fault(plain, "e4");
        fault(plain, "^e4+");
        fault(plain, "^e4#");
        fault(check, "Rd8");
        fault(check, "Rd8+");
        fault(check, "^Rd8#");
        fault(check, "^Rd8++");
        fault(check, "^+Rd8");
        fault(check, "^Rd8+#");
        fault(mate, "Rh8");
        fault(mate, "Rh8#");
        fault(mate, "^Rh8+");
        fault(mate, "^Rh8##");
        fault(mate, "^Rh8+#");
        fault(stale, "Qb6");
        fault(stale, "^Qb6#");
        fault(stale, "^Qb6+");
        fault(castling, "O-O");
        fault(castling, "O-O+");
        fault(castling, "^O-O#");
        fault(plain, "^+");
        fault(plain, "^#");
        fault(plain, "e4 ^+");
        fault(plain, "e4 (d4 ^#)");
    }

    /** "Variations can lie in at most three others": four in each other can stand, a fifth one cannot. */
    private static void depthsOfVariations() {
        fault("e4 (d4)");
        fault("e4 (d4 (c4))");
        fault("e4 (d4 (c4 (b4)))");
        fault("e4 (d4 (c4 (b4 (a4))))");
        fault("e4 (d4 (c4 (b4 (a4 ^(f4)))))");
        fault("e4 (d4 (c4 (b4 (a4 a5 ^(a6)))))");
        fault("e4 (d4 (c4 (b4 (a4 {a} ^(f4");
        fault("e4 (d4 (c4 (b4 (a4)(f4)) (g4)) (h4)) (a3)");
        fault("e4 (d4 (c4 (b4 (a4)(f4 ^(g4)))))");
        // Variations behind each other lie in no other one.
        fault("e4 (d4) (c4) (b4) (a4) (f4) (g4) (h4)");
        fault("e4 (d4 d5 (Nf6 c4 (Nf3 e6 (g6 g3)))) e5");
        fault("e4 (d4 d5 (Nf6 c4 (Nf3 e6 (g6 g3 ^(Nc3))))) e5");
    }

    /** "the line of a variation has at least one move": none at all, none ahead of a bracket or a note. */
    private static void movesOfVariations() {
        fault("e4 (^)");
        fault("e4 ( ^)");
        fault("e4 (1. ^)");
        fault("e4 (^())");
        fault("e4 (^(d4))");
        fault("e4 (^{a})");
        fault("e4 (d4) (^)");
        fault("e4 (d4 (^))");
        fault("e4 (d4 (c4) (^))");
        fault("e4 e5 (^)");
        fault("e4 (d4)");
        fault("e4 (1. d4)");
        // A variation stands behind a move.
        fault("^(e4)");
        fault("^(");
        fault("^()");
        fault("1. ^(e4)");
        fault("^)");
        fault("e4 ^)");
        fault("e4 (d4) ^)");
    }

    /** "the first move of a variation stands in the position ahead of the move just before the variation ..." */
    private static void positionsOfVariations() {
        fault("e4 (^e5)");
        fault("e4 e5 (^d4)");
        fault("e4 e5 (c5)");
        fault("e4 e5 (c5) (e6) {a} (d5) Nf3");
        fault("e4 e5 (c5 Nf3) (^Nf3)");
        fault("e4 e5 (c5 Nf3 (Nc3)) (e6) Nf3");
        fault("e4 e5 (c5 Nf3 (^d6))");
        fault("e4 e5 (c5 Nf3 (e5))");
        fault("e4 e5 (c5 (e6 (d5 (g6 d4)))) Nf3");
        fault("e4 e5 (c5 Nf3 d6 (Nc6 (e6) d4) d4) Nf3 Nc6");
        fault("e4 e5 (c5) ^c5");
        fault("e4 {a} (d4) {b} (c4) {c} e5");
        fault("e4 {a} (^e5)");
        fault("e4 (d4) (^d5)");
        fault("e4 (d4 d5 (e5) c4)");
        fault("e4 (d4 d5 (^c4) c4)");
        fault("e4 (d4 d5 c4 (Nf3) e6 (c6 Nc3)) e5 (d5 exd5) Nf3");
        // The move behind a variation stands behind the moves of its own line.
        fault("e4 (d4 d5) ^d5x");
        fault("e4 (d4) d5 exd5");
        fault("e4 (d4) d5 ^dxe5");
        // In a text that begins behind other moves.
        OpeningsCabinet x = new OpeningsCabinet();
        Check.moves(x, "e4 e5");
        fault(x, "Nf3 (Nc3 (Bc4)) Nc6");
        fault(x, "Nf3 (^Nc6)");
        fault(x, "^(Nf3)");
    }

    /** "or the length of the text if it ends too early": in a note, in a variation, behind a number. */
    private static void textsThatEndTooEarly() {
        fault("e4 {^");
        fault("e4 {a^");
        fault("e4 {a ( ^");
        fault("e4 (^");
        fault("e4 (  ^");
        fault("e4 (1.^");
        fault("e4 (1. ^");
        fault("e4 (d4^");
        fault("e4 (d4 ^");
        fault("e4 (d4 {a}^");
        fault("e4 (d4 {a^");
        fault("e4 (d4 (c4)^");
        fault("e4 (d4 (c4^");
        fault("1.^");
        fault("1... ^");
        fault("e4 2.^");
        fault("e4 (d4) 1...   ^");
        fault("e4 (d4) {^");
        // What cannot stand is told first, wherever the text ends.
        fault("^e5 {");
        fault("e4 (^e5 {");
        fault("^{");
        fault("e4 ^) (");
    }

    private static OpeningsCabinet withMoves(int made) {
        OpeningsCabinet x = new OpeningsCabinet();
        Check.rounds(x, made / 4);
        String[] rest = {"", "Nf3", "Nf3 Nf6", "Nf3 Nf6 Ng1"};
        Check.moves(x, rest[made % 4]);
        Check.same("moves that were made", x.madeCount(), made);
        return x;
    }

    /**
     * "no more moves than the game has room for (the move that is one too many cannot stand, a number ahead of it
     * can)".
     */
    private static void room() {
        OpeningsCabinet full = withMoves(80);
        fault(full, "");
        fault(full, "  *");
        fault(full, "^e4");
        fault(full, "1. ^e4");
        fault(full, "1.^");
        fault(full, "1. ^e5");
        fault(full, "^(e4)");
        fault(full, "^{a}");
        OpeningsCabinet one = withMoves(79);
        fault(one, "Ng8");
        fault(one, "1... Ng8 1-0");
        fault(one, "Ng8 ^e4");
        fault(one, "Ng8 2. ^e4");
        fault(one, "Ng8 2.^");
        fault(one, "Ng8 (e5) {a} ^e4");
        fault(one, "Ng8 {a} 2. ^e4 *");
        OpeningsCabinet two = withMoves(78);
        fault(two, "Ng1 Ng8 *");
        fault(two, "Ng1 Ng8 ^e4");
        OpeningsCabinet none = new OpeningsCabinet();
        String eighty = String.join(" ", Collections.nCopies(20, "Nf3 Nf6 Ng1 Ng8"));
        fault(none, eighty);
        fault(none, eighty + " *");
        fault(none, eighty + " ^e4");
        fault(none, eighty + " 41. ^e4");
        fault(none, eighty + " (e5) 41.^");
        Check.same("80 moves at once", Check.moves(none, eighty), 80);
    }

    /** "In the line of the text": moves of variations need no room. */
    private static void roomOfVariations() {
        OpeningsCabinet one = withMoves(79);
        fault(one, "Ng8 (e5 e4 d5 d4 (d3 c5 (c6)) c5)");
        fault(one, "Ng8 (" + "Nc6 Nf3 Nb8 Ng1 ".repeat(25) + ") (e5) *");
        Check.same("moves of the line", Check.moves(one, "Ng8 (e5 e4 d5 d4)"), 1);
        Check.same("moves in its variation", one.variationMoves(), 4);
        OpeningsCabinet none = new OpeningsCabinet();
        fault(none, "e4 (" + "Nf3 Nf6 Ng1 Ng8 ".repeat(29) + "d4) e5");
    }

    /** Promise 33: "makes the moves of its line": none, one, 80; the present game goes on. */
    private static void movesThatWereRead() {
        OpeningsCabinet x = new OpeningsCabinet();
        Check.same("no moves", Check.moves(x, ""), 0);
        Check.same("one move", Check.moves(x, "1. e4 (1. d4 d5) *"), 1);
        Check.same("paper", Check.paper(x), "rnbqkbnr/pppppppp/8/8/4P3/8/PPPP1PPP/RNBQKBNR b KQkq -");
        Check.same("two more", Check.moves(x, "e5 Nf3"), 2);
        Check.same("made", x.madeCount(), 3);
        Check.type(x, "Nc6 Bb5 Bb5");
        Check.refuses("a fault behind two moves", ARGUMENT, x::readMoves);
        Check.same("none of them is made", x.madeCount(), 3);
        OpeningsCabinet full = withMoves(80);
        Check.same("no moves behind 80", Check.moves(full, " 1-0"), 0);
        Check.type(full, "e4");
        Check.refuses("one move behind 80", ARGUMENT, full::readMoves);
        Check.same("made", full.madeCount(), 80);
        Check.same("the last one is as it was", full.repetitions(), 21);
    }

    /** "The text is empty then, also if an exception is thrown." */
    private static void textBehindReading() {
        OpeningsCabinet x = new OpeningsCabinet();
        Check.type(x, "e4");
        x.readMoves();
        Check.same("behind moves", x.clearText(), 0);
        Check.type(x, "e4");
        Check.refuses("a fault", ARGUMENT, x::readMoves);
        Check.same("behind a fault", x.clearText(), 0);
        Check.type(x, "e5");
        Check.same("fault() keeps it", x.fault(), NONE);
        Check.same("kept", x.readMoves(), 1);
        OpeningsCabinet y = new OpeningsCabinet();
        y.newBoard(4, 4);
        Check.type(y, "Ka2");
        Check.refuses("fault of a board without kings", STATE, y::fault);
        Check.same("the text is kept then", y.type(0), 3);
        Check.refuses("no proper position", STATE, y::readMoves);
        Check.same("behind no proper position", y.clearText(), 0);
        Check.refuses("no text, no proper position", STATE, y::readMoves);
    }

    /** Promise 34: "of the latest text that readMoves() read without an exception"; "0 before the first one". */
    private static void countsOfVariations() {
        OpeningsCabinet x = new OpeningsCabinet();
        Check.same("before the first text", x.variationMoves(), 0);
        Check.type(x, "e4 (d4 d5 (Nf6)) (c4");
        Check.refuses("a fault", ARGUMENT, x::readMoves);
        Check.same("behind a fault", x.variationMoves(), 0);
        Check.moves(x, "e4 (d4 d5 (Nf6)) (c4)");
        Check.same("four in three variations", x.variationMoves(), 4);
        Check.type(x, "e5 (c5)");
        x.fault();
        Check.same("fault() counts nothing", x.variationMoves(), 4);
        x.clearText();
        Check.type(x, "e5 (c5 Nf3) x");
        Check.refuses("a fault", ARGUMENT, x::readMoves);
        Check.same("behind a fault still four", x.variationMoves(), 4);
        x.takeBack();
        x.startHere();
        x.put(4, 0);
        Check.type(x, "d4");
        Check.refuses("no proper position", STATE, x::readMoves);
        Check.same("behind that still four", x.variationMoves(), 4);
        x.put(4, 1);
        Check.same("a text without variations", Check.moves(x, "d4"), 1);
        Check.same("none", x.variationMoves(), 0);
        Check.moves(x, "d5 (e5)");
        Check.same("one", x.variationMoves(), 1);
        Check.moves(x, "");
        Check.same("an empty text", x.variationMoves(), 0);
    }

    /** Full texts: 500 bytes of moves, of notes, of blanks, of brackets, and a fault at the last byte. */
    private static void fullTexts() {
        fault(" ".repeat(500));
        fault(" ".repeat(498) + "e4");
        fault(" ".repeat(498) + "^e5");
        fault(" ".repeat(499) + "^x");
        fault(" ".repeat(499) + "*");
        fault("e4 {" + "a".repeat(495) + "}");
        fault("e4 {" + "a".repeat(496) + "^");
        fault("e4 {" + "a".repeat(494) + "}^}");
        fault("e4 ^" + ")".repeat(497));
        fault("e4 (^" + "(".repeat(496));
        fault("e4 " + "(d4)".repeat(124) + " ");
        fault("^" + "1".repeat(500));
        fault("^" + "e4".repeat(250));
        OpeningsCabinet x = new OpeningsCabinet();
        Check.type(x, "e4 " + "(d4)".repeat(124) + "*");
        Check.same("the moves of a full text", x.readMoves(), 1);
        Check.same("its variations", x.variationMoves(), 124);
    }

    /** "Throws IllegalStateException if the first position is not proper", whatever the text is. */
    private static void notProper() {
        for (String text : new String[] {"", "e4", "x", "{", "*"}) {
            OpeningsCabinet x = new OpeningsCabinet();
            x.put(60, 0);
            Check.type(x, text);
            Check.refuses("fault of <" + text + ">", STATE, x::fault);
            Check.refuses("readMoves of <" + text + ">", STATE, x::readMoves);
            Check.same("the text then", x.clearText(), 0);
            Check.same("no variations", x.variationMoves(), 0);
        }
    }
}
