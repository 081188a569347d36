/** Promises 35 to 48, 60 and 61: games on shelves. */
public final class ShelvesTest {
    private static final Class<IllegalArgumentException> ARGUMENT = IllegalArgumentException.class;
    private static final Class<IllegalStateException> STATE = IllegalStateException.class;
    private static final Class<IndexOutOfBoundsException> INDEX = IndexOutOfBoundsException.class;
    private static final Class<java.util.NoSuchElementException> NOTHING = java.util.NoSuchElementException.class;

    public static void main(String[] args) {
        adding();
        lengths();
        positions();
        counts();
        strengths();
        continuations();
        orderOfLetters();
        severalTimes();
        mainLines();
        newPositions();
        merging();
        mergingWithoutRoom();
        notProper();
        Check.end("ShelvesTest");
    }

    /** Adds a game of these moves from the start; the present game is as it was before. */
    private static void add(OpeningsCabinet x, int shelf, String moves, int result, int year, int strength) {
        int made = Check.moves(x, moves);
        x.addGame(shelf, result, year, strength);
        for (int i = 0; i < made; i++) {
            x.takeBack();
        }
    }

    private static OpeningsCabinet library() {
        OpeningsCabinet x = new OpeningsCabinet();
        add(x, 0, "e4 e5 Nf3 Nc6", 0, 1990, 2400);
        add(x, 0, "e4 c5 Nf3", 1, 1995, 2500);
        add(x, 0, "d4 d5", 2, 2000, 2601);
        add(x, 0, "Nf3 Nc6 e4 e5", 0, 2005, 2000);
        add(x, 1, "e4", 1, 1800, 0);
        return x;
    }

    private static void adding() {
        OpeningsCabinet x = new OpeningsCabinet();
        Check.same("first", x.addGame(0, 0, 1800, 0), 0);
        Check.same("second", x.addGame(0, 2, 2100, 3500), 1);
        Check.same("first of the other shelf", x.addGame(1, 1, 1950, 1500), 0);
        Check.refuses("shelf 2", INDEX, () -> x.addGame(2, 0, 1900, 1));
        Check.refuses("shelf -1", INDEX, () -> x.addGame(-1, 0, 1900, 1));
        Check.refuses("result -1", ARGUMENT, () -> x.addGame(0, -1, 1900, 1));
        Check.refuses("result 3", ARGUMENT, () -> x.addGame(0, 3, 1900, 1));
        Check.refuses("year 1799", ARGUMENT, () -> x.addGame(0, 0, 1799, 1));
        Check.refuses("year 2101", ARGUMENT, () -> x.addGame(0, 0, 2101, 1));
        Check.refuses("strength -1", ARGUMENT, () -> x.addGame(0, 0, 1900, -1));
        Check.refuses("strength 3501", ARGUMENT, () -> x.addGame(0, 0, 1900, 3501));
        Check.refuses("shelf 2, result 3", INDEX, () -> x.addGame(2, 3, 0, -1));
        Check.same("games", x.gameCount(0), 2);
        for (int game = 2; game < 40; game++) {
            Check.same("number", x.addGame(0, 0, 1900, 1), game);
        }
        Check.refuses("the 41st", STATE, () -> x.addGame(0, 0, 1900, 1));
        Check.refuses("the 41st with a wrong year", ARGUMENT, () -> x.addGame(0, 0, 0, 1));
        Check.same("games", x.gameCount(0), 40);
        Check.same("games of the other shelf", x.gameCount(1), 1);
        Check.same("there is room there", x.addGame(1, 0, 1900, 1), 1);
        // A game on a shelf is a copy.
        Check.moves(x, "e4 e5");
        x.addGame(1, 0, 1900, 1);
        x.takeBack();
        Check.moves(x, "c5 Nf3");
        Check.same("length of the copy", x.gameLength(1, 2), 2);
        Check.same("the copy does not pass here", x.count(1), 0);
    }

    private static void lengths() {
        OpeningsCabinet x = library();
        Check.same("game 0", x.gameLength(0, 0), 4);
        Check.same("game 1", x.gameLength(0, 1), 3);
        Check.same("game 0 of the shelf 1", x.gameLength(1, 0), 1);
        Check.refuses("game 4", INDEX, () -> x.gameLength(0, 4));
        Check.refuses("game -1", INDEX, () -> x.gameLength(0, -1));
        Check.refuses("game 1 of the shelf 1", INDEX, () -> x.gameLength(1, 1));
        Check.same("mean length", x.meanLength(0), 13.0 / 4.0);
        Check.same("mean length of the shelf 1", x.meanLength(1), 1.0);
        Check.same("mean length of an empty shelf", new OpeningsCabinet().meanLength(0), 0.0);
        add(x, 1, "", 0, 1900, 1);
        add(x, 1, "d4 d5 c4 c5", 0, 1900, 1);
        Check.same("mean length in thirds", x.meanLength(1), 5.0 / 3.0);
    }

    private static void positions() {
        OpeningsCabinet x = library();
        // The start, e4, e5, Nf3, Nc6; c5, Nf3; d4, d5; Nf3, Nc6, e4; the last one of the game 3 is known.
        Check.same("positions", x.positionCount(0), 12);
        Check.same("positions of the shelf 1", x.positionCount(1), 2);
        Check.same("positions of nothing", new OpeningsCabinet().positionCount(1), 0);
        OpeningsCabinet y = new OpeningsCabinet();
        add(y, 0, "Nf3 Nf6 Ng1 Ng8 Nf3 Nf6 Ng1 Ng8", 0, 1900, 1);
        Check.same("positions that come again", y.positionCount(0), 4);
    }

    private static void counts() {
        OpeningsCabinet x = library();
        Check.same("the start", x.count(0), 4);
        Check.same("the start of the shelf 1", x.count(1), 1);
        Check.same("won by White", x.countWith(0, 0), 2);
        Check.same("drawn", x.countWith(0, 1), 1);
        Check.same("won by Black", x.countWith(0, 2), 1);
        Check.same("share won", x.shareWon(0), 2.0f / 4.0f);
        Check.same("share won of the shelf 1", x.shareWon(1), 0.0f);
        Check.same("years", x.countYears(0, 1990, 2000), 3);
        Check.same("one year", x.countYears(0, 1995, 1995), 1);
        Check.same("years between", x.countYears(0, 1991, 1994), 0);
        Check.same("all years", x.countYears(0, Integer.MIN_VALUE, Integer.MAX_VALUE), 4);
        Check.refuses("years backward", ARGUMENT, () -> x.countYears(0, 1996, 1995));
        Check.refuses("result 3", ARGUMENT, () -> x.countWith(0, 3));
        Check.refuses("result -1", ARGUMENT, () -> x.countWith(1, -1));
        Check.moves(x, "e4");
        Check.same("e4", x.count(0), 2);
        Check.same("e4 drawn", x.countWith(0, 1), 1);
        Check.same("e4 in years", x.countYears(0, 1995, 2020), 1);
        Check.same("share won", x.shareWon(0), 0.5f);
        Check.moves(x, "e5 Nf3 Nc6");
        Check.same("two games meet", x.count(0), 2);
        Check.same("both won", x.shareWon(0), 1.0f);
        Check.moves(x, "a3");
        Check.same("nobody was here", x.count(0), 0);
        Check.same("share won", x.shareWon(0), 0.0f);
        OpeningsCabinet y = library();
        y.put(4, 0);
        Check.same("an improper position", y.count(0) + y.countWith(0, 0) + y.countYears(0, 0, 9999), 0);
        OpeningsCabinet z = library();
        z.setSide(true, 7);
        Check.same("other rights", z.count(0), 0);
        add(z, 0, "e4", 0, 1900, 1);
        z.setSide(true, 15);
        add(z, 0, "e4", 0, 1901, 1);
        Check.same("a third", z.shareWon(0), 3.0f / 5.0f);
    }

    private static void strengths() {
        OpeningsCabinet x = library();
        Check.same("top", x.meanStrength(0, false), 9501);
        Check.same("bottom", x.meanStrength(0, true), 4);
        Check.same("top of 0", x.meanStrength(1, false), 0);
        Check.same("bottom of 0", x.meanStrength(1, true), 1);
        Check.moves(x, "e4");
        Check.same("top of e4", x.meanStrength(0, false), 2450);
        Check.same("bottom of e4", x.meanStrength(0, true), 1);
        Check.moves(x, "a5");
        Check.refuses("nobody was here", NOTHING, () -> x.meanStrength(0, false));
        Check.refuses("nobody was here, bottom", NOTHING, () -> x.meanStrength(1, true));
        OpeningsCabinet y = new OpeningsCabinet();
        for (int i = 0; i < 6; i++) {
            y.addGame(0, 0, 1900, i == 0 ? 15 : 0);
        }
        Check.same("fifteen sixths", y.meanStrength(0, false) * 100 + y.meanStrength(0, true), 502);
        for (int i = 0; i < 3; i++) {
            y.addGame(1, 0, 1900, 0);
        }
        Check.same("no strength of three", y.meanStrength(1, false) * 100 + y.meanStrength(1, true), 1);
    }

    private static String followers(OpeningsCabinet x, int shelf) {
        StringBuilder all = new StringBuilder();
        int number = x.continuations(shelf);
        for (int i = 0; i < number; i++) {
            all.append(Check.letters(x, x.continuationAt(shelf, i))).append(':').append(x.gamesOf(shelf, i)).append(' ');
        }
        Check.refuses("behind the last one", INDEX, () -> x.continuationAt(shelf, number));
        Check.refuses("ahead of the first one", INDEX, () -> x.continuationAt(shelf, -1));
        Check.refuses("games behind the last one", INDEX, () -> x.gamesOf(shelf, number));
        Check.refuses("games ahead of the first one", INDEX, () -> x.gamesOf(shelf, -1));
        return all.toString();
    }

    private static void continuations() {
        OpeningsCabinet x = library();
        Check.same("at the start", followers(x, 0), "Nf3:1 d4:1 e4:2 ");
        Check.same("at the start of the shelf 1", followers(x, 1), "e4:1 ");
        Check.moves(x, "e4");
        Check.same("e4", followers(x, 0), "c5:1 e5:1 ");
        Check.same("e4 of the shelf 1", followers(x, 1), "");
        Check.moves(x, "c5 Nf3");
        Check.same("the end of a game", followers(x, 0), "");
    }

    private static void orderOfLetters() {
        OpeningsCabinet x = Check.at("4k3/8/8/8/8/8/6P1/R3K2R w KQ -");
        for (String move : new String[] {"g4", "O-O", "Ra8+", "O-O-O", "Kd2", "Rd1", "g3", "Ra2", "Rh8+", "Rh7", "Ra3"}) {
            add(x, 1, move, 1, 1990, 100);
        }
        Check.same("order", followers(x, 1), "Kd2:1 O-O:1 O-O-O:1 Ra2:1 Ra3:1 Ra8+:1 Rd1:1 Rh7:1 Rh8+:1 g3:1 g4:1 ");
        OpeningsCabinet y = Check.at("1n2k3/P7/8/8/8/8/8/4K3 w - -");
        for (String move : new String[] {"axb8=R+", "axb8=N", "a8=B", "axb8=Q+", "a8=Q", "a8=R", "a8=N", "axb8=B"}) {
            add(y, 0, move, 1, 1990, 100);
        }
        Check.same("order of promotions", followers(y, 0),
                "a8=B:1 a8=N:1 a8=Q:1 a8=R:1 axb8=B:1 axb8=N:1 axb8=Q+:1 axb8=R+:1 ");
    }

    private static void severalTimes() {
        OpeningsCabinet x = new OpeningsCabinet();
        add(x, 0, "Nf3 Nf6 Ng1 Ng8 Nf3 Nf6 Ng1 Ng8 e4", 0, 1900, 1);
        Check.same("one game made several", followers(x, 0), "Nf3:1 e4:1 ");
        add(x, 0, "e4", 0, 1900, 1);
        add(x, 0, "Nf3 Nf6 Ng1 Ng8 e4 e5", 0, 1900, 1);
        Check.same("three games", followers(x, 0), "Nf3:2 e4:3 ");
        Check.same("games that pass", x.count(0), 3);
        // A game that began elsewhere passes too.
        OpeningsCabinet y = Check.at("rnbqkb1r/pppppppp/5n2/8/8/5N2/PPPPPPPP/RNBQKB1R w KQkq -");
        Check.moves(y, "Ng1 Ng8 d4");
        y.addGame(0, 0, 1900, 1);
        for (int i = 0; i < 1; i++) {
            y.takeBack();
        }
        Check.same("the usual start", followers(y, 0), "d4:1 ");
    }

    private static void mainLines() {
        OpeningsCabinet x = library();
        Check.same("main moves", x.playMain(0, 80), 3);
        Check.same("of equal ones the first", Check.paper(x), "rnbqkbnr/pp1ppppp/8/2p5/4P3/5N2/PPPP1PPP/RNBQKB1R b KQkq -");
        Check.same("none is left", x.playMain(0, 1), 0);
        x.takeBack();
        x.takeBack();
        Check.same("one is asked", x.playMain(0, 1), 1);
        Check.same("made", x.madeCount(), 2);
        Check.same("the other shelf", x.playMain(1, 5), 0);
        Check.refuses("0 moves", ARGUMENT, () -> x.playMain(0, 0));
        Check.refuses("81 moves", ARGUMENT, () -> x.playMain(0, 81));
        Check.refuses("-1 moves", ARGUMENT, () -> x.playMain(1, -1));
        Check.refuses("shelf 2, 0 moves", INDEX, () -> x.playMain(2, 0));
        OpeningsCabinet y = new OpeningsCabinet();
        add(y, 0, "Nf3 Nf6 Ng1 Ng8 Nf3", 0, 1900, 1);
        Check.moves(y, "a3 a6");
        Check.same("another position", y.playMain(0, 9), 0);
        y.takeBack();
        y.takeBack();
        Check.same("round and round", y.playMain(0, 80), 80);
        Check.same("full", y.madeCount(), 80);
        Check.same("no move can be made", y.playMain(0, 3), 0);
        OpeningsCabinet z = new OpeningsCabinet();
        add(z, 0, "h3 h6", 0, 1900, 1);
        add(z, 0, "h3 a6", 0, 1900, 1);
        add(z, 0, "a3", 0, 1900, 1);
        Check.same("most games first", z.playMain(0, 2), 2);
        Check.same("then the first letters", Check.paper(z).startsWith("rnbqkbnr/1ppppppp/p7"), true);
    }

    private static void newPositions() {
        OpeningsCabinet x = library();
        Check.same("game 0", x.firstNew(0, 0), 0);
        Check.same("game 1 leaves it with c5", x.firstNew(0, 1), 2);
        Check.same("game 2 leaves it with d4", x.firstNew(0, 2), 1);
        Check.same("game 3 leaves it with Nf3", x.firstNew(0, 3), 1);
        Check.same("the shelf 1 knows nothing", x.firstNew(1, 0), 0);
        add(x, 0, "e4 c5", 0, 1900, 1);
        Check.same("all known", x.firstNew(0, 4), -1);
        add(x, 0, "Nf3 Nc6 e4 e5 Nxe5", 0, 1900, 1);
        Check.same("new at the end", x.firstNew(0, 5), 5);
        Check.refuses("game 6", INDEX, () -> x.firstNew(0, 6));
        Check.refuses("game -1", INDEX, () -> x.firstNew(1, -1));
        // What a game itself passed before does not make a position known.
        OpeningsCabinet y = new OpeningsCabinet();
        add(y, 0, "", 0, 1900, 1);
        add(y, 0, "Nf3 Nf6 Ng1 Ng8", 0, 1900, 1);
        Check.same("first new", y.firstNew(0, 1), 1);
    }

    private static void merging() {
        OpeningsCabinet x = library();
        add(x, 1, "e4 c5 Nf3", 0, 1900, 1);
        add(x, 1, "e4 c5", 0, 1900, 1);
        add(x, 1, "e4", 2, 2001, 7);
        add(x, 1, "c4", 2, 2002, 8);
        Check.same("games that came", x.merge(), 3);
        Check.same("games", x.gameCount(0), 7);
        Check.same("the shelf 1 is empty", x.gameCount(1) + x.positionCount(1) + x.count(1), 0);
        Check.same("lengths", x.gameLength(0, 4) * 100 + x.gameLength(0, 5) * 10 + x.gameLength(0, 6), 121);
        Check.same("e4 is known now", x.firstNew(0, 4), -1);
        Check.same("c4 is not", x.firstNew(0, 6), 1);
        Check.same("positions", x.positionCount(0), 13);
        Check.same("results go along", x.countWith(0, 2), 2);
        Check.same("years go along", x.countYears(0, 2002, 2002), 1);
        Check.same("nothing is left", x.merge(), 0);
        // The same moves from another first position are another game.
        OpeningsCabinet y = new OpeningsCabinet();
        add(y, 0, "e4", 0, 1900, 1);
        y.setSide(true, 7);
        add(y, 1, "e4", 0, 1900, 1);
        y.setSide(true, 15);
        add(y, 1, "e4", 1, 1999, 2);
        Check.same("another first position", y.merge(), 1);
        // Positions that are passed alike by other moves are another game too.
        OpeningsCabinet z = new OpeningsCabinet();
        add(z, 0, "Nf3 Nf6 e4", 0, 1900, 1);
        add(z, 1, "e4 Nf6 Nf3", 0, 1900, 1);
        Check.same("other moves", z.merge(), 1);
        // Drilled games keep their boxes, new ones have the box 0.
        OpeningsCabinet w = new OpeningsCabinet();
        add(w, 0, "e4", 0, 1900, 1);
        w.answer(true);
        add(w, 1, "d4", 0, 1900, 1);
        w.merge();
        Check.same("the new one is asked", w.asked(), 1);
        Check.same("its box", w.answer(true), 1);
        Check.same("the old one is asked then", w.asked(), 0);
        Check.same("its box was kept", w.answer(true), 2);
    }

    private static void mergingWithoutRoom() {
        OpeningsCabinet x = new OpeningsCabinet();
        for (int i = 0; i < 38; i++) {
            x.addGame(0, 0, 1900, 1);
        }
        x.addGame(1, 0, 1900, 1);
        String[] moves = {"a3", "b3", "a3", "c3", "d3"};
        for (String move : moves) {
            add(x, 1, move, 0, 1900, 1);
        }
        Check.same("room for two", x.merge(), 2);
        Check.same("games", x.gameCount(0), 40);
        Check.same("the others are gone", x.gameCount(1), 0);
        Check.same("continuations", followers(x, 0), "a3:1 b3:1 ");
        add(x, 1, "e3", 0, 1900, 1);
        Check.same("no room", x.merge(), 0);
        Check.same("gone", x.gameCount(1), 0);
    }

    private static void notProper() {
        OpeningsCabinet x = library();
        x.put(4, 0);
        Check.refuses("addGame", STATE, () -> x.addGame(0, 0, 1900, 1));
        Check.refuses("addGame with a wrong year", ARGUMENT, () -> x.addGame(0, 0, 1, 1));
        Check.refuses("continuations", STATE, () -> x.continuations(0));
        Check.refuses("continuations of no shelf", INDEX, () -> x.continuations(2));
        Check.refuses("continuationAt", STATE, () -> x.continuationAt(0, 0));
        Check.refuses("continuationAt of no shelf", STATE, () -> x.continuationAt(2, 0));
        Check.refuses("gamesOf", STATE, () -> x.gamesOf(0, 0));
        Check.refuses("gamesOf of no shelf", STATE, () -> x.gamesOf(2, 0));
        Check.refuses("playMain", STATE, () -> x.playMain(0, 1));
        Check.refuses("playMain of no moves", ARGUMENT, () -> x.playMain(0, 0));
        Check.refuses("playMain of no shelf", INDEX, () -> x.playMain(2, 1));
        Check.refuses("meanStrength", NOTHING, () -> x.meanStrength(0, true));
        Check.same("what stands on the shelves", x.gameCount(0) + x.positionCount(0) + x.firstNew(0, 1), 18);
        Check.same("merge is possible", x.merge(), 1);
    }
}
