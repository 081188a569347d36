import java.util.NoSuchElementException;

/** The bounds of section 8 and of promises 35 to 48, 60 and 61: empty and full shelves, games that meet, merging. */
public final class BoundsShelvesTest {
    private static final Class<IllegalArgumentException> ARGUMENT = IllegalArgumentException.class;
    private static final Class<IllegalStateException> STATE = IllegalStateException.class;
    private static final Class<IndexOutOfBoundsException> INDEX = IndexOutOfBoundsException.class;
    private static final Class<NoSuchElementException> NOTHING = NoSuchElementException.class;
    private static final int[] NO_SHELVES = {Integer.MIN_VALUE, -2, -1, 2, 3, Integer.MAX_VALUE};
    private static final int NONE = OpeningsCabinet.NONE;

    public static void main(String[] args) {
        emptyShelves();
        shelvesThatAreNone();
        fullShelves();
        rangesOfGames();
        copies();
        shortestAndLongestGames();
        numbersOfGames();
        positionsOfGames();
        positionsThatDiffer();
        resultsOfGames();
        yearsOfGames();
        strengthsOfGames();
        lowestTerms();
        noContinuations();
        orderOfContinuations();
        gamesOfContinuations();
        continuationsMadeSeveralTimes();
        continuationsAskedAlone();
        positionsFromElsewhere();
        mainMoves();
        mostMainMoves();
        equalMainMoves();
        firstNewPositions();
        knownByLowerNumbers();
        mergingNothing();
        mergingWithRoom();
        mergingLikeGames();
        mergedGames();
        means();
        shares();
        Check.end("BoundsShelvesTest");
    }

    /** Adds a game of these moves; the present game is as it was before. */
    private static void add(OpeningsCabinet x, int shelf, String moves, int result, int year, int strength) {
        int made = Check.moves(x, moves);
        x.addGame(shelf, result, year, strength);
        for (int i = 0; i < made; i++) {
            x.takeBack();
        }
    }

    private static void add(OpeningsCabinet x, int shelf, String... games) {
        for (String moves : games) {
            add(x, shelf, moves, 0, 1900, 1);
        }
    }

    /** What the calls tell of a shelf without games. */
    private static void emptyShelves() {
        OpeningsCabinet x = new OpeningsCabinet();
        for (int shelf = 0; shelf <= 1; shelf++) {
            int empty = shelf;
            Check.same("gameCount", x.gameCount(shelf), 0);
            Check.same("positionCount", x.positionCount(shelf), 0);
            Check.same("count", x.count(shelf), 0);
            Check.same("countWith", x.countWith(shelf, 0), 0);
            Check.same("countYears", x.countYears(shelf, 1800, 2100), 0);
            Check.same("continuations", x.continuations(shelf), 0);
            Check.same("playMain", x.playMain(shelf, 1), 0);
            Check.same("patternCount", x.patternCount(shelf), 0);
            Check.same("meanLength", x.meanLength(shelf), 0.0);
            Check.same("shareWon", x.shareWon(shelf), 0.0f);
            Check.refuses("meanStrength", NOTHING, () -> x.meanStrength(empty, false));
            Check.refuses("the bottom of meanStrength", NOTHING, () -> x.meanStrength(empty, true));
            Check.refuses("gameLength", INDEX, () -> x.gameLength(empty, 0));
            Check.refuses("firstNew", INDEX, () -> x.firstNew(empty, 0));
            Check.refuses("continuationAt", INDEX, () -> x.continuationAt(empty, 0));
            Check.refuses("gamesOf", INDEX, () -> x.gamesOf(empty, 0));
        }
        Check.same("merge", x.merge(), 0);
        Check.same("errors", x.errors(), 0);
    }

    /** "There are the shelves 0 and 1": with a game on each of them there are no others. */
    private static void shelvesThatAreNone() {
        OpeningsCabinet x = new OpeningsCabinet();
        add(x, 0, "e4");
        add(x, 1, "e4");
        for (int shelf : NO_SHELVES) {
            Check.refuses("addGame", INDEX, () -> x.addGame(shelf, 0, 1900, 1));
            Check.refuses("gameCount", INDEX, () -> x.gameCount(shelf));
            Check.refuses("gameLength", INDEX, () -> x.gameLength(shelf, 0));
            Check.refuses("positionCount", INDEX, () -> x.positionCount(shelf));
            Check.refuses("count", INDEX, () -> x.count(shelf));
            Check.refuses("countWith", INDEX, () -> x.countWith(shelf, 0));
            Check.refuses("countYears", INDEX, () -> x.countYears(shelf, 1800, 2100));
            Check.refuses("meanStrength", INDEX, () -> x.meanStrength(shelf, true));
            Check.refuses("continuations", INDEX, () -> x.continuations(shelf));
            Check.refuses("continuationAt", INDEX, () -> x.continuationAt(shelf, 0));
            Check.refuses("gamesOf", INDEX, () -> x.gamesOf(shelf, 0));
            Check.refuses("playMain", INDEX, () -> x.playMain(shelf, 1));
            Check.refuses("firstNew", INDEX, () -> x.firstNew(shelf, 0));
            Check.refuses("patternCount", INDEX, () -> x.patternCount(shelf));
            Check.refuses("meanLength", INDEX, () -> x.meanLength(shelf));
            Check.refuses("shareWon", INDEX, () -> x.shareWon(shelf));
        }
        Check.same("the games", x.gameCount(0) * 10 + x.gameCount(1), 11);
    }

    /** "each with at most 40 games, numbered from 0": 39, 40 and 41, on each shelf for itself. */
    private static void fullShelves() {
        for (int shelf = 0; shelf <= 1; shelf++) {
            int full = shelf;
            OpeningsCabinet x = new OpeningsCabinet();
            for (int game = 0; game < 40; game++) {
                Check.same("number", x.addGame(shelf, 0, 1900, 1), game);
                Check.same("gameCount", x.gameCount(shelf), game + 1);
            }
            for (int tries = 0; tries < 2; tries++) {
                Check.refuses("the 41st", STATE, () -> x.addGame(full, 0, 1900, 1));
                Check.refuses("the 41st without a result", ARGUMENT, () -> x.addGame(full, 3, 1900, 1));
                Check.same("gameCount", x.gameCount(shelf), 40);
            }
            Check.same("count of a full shelf", x.count(shelf), 40);
            Check.same("the last game", x.gameLength(shelf, 39), 0);
            Check.refuses("the game behind it", INDEX, () -> x.gameLength(full, 40));
            Check.same("the other shelf", x.addGame(1 - shelf, 0, 1900, 1), 0);
            x.newBoard(4, 4);
            Check.paper(x, "k3/4/4/3K w - -");
            Check.same("on a new board", x.addGame(shelf, 0, 1900, 1), 0);
        }
    }

    /** Promise 35: the result 0 to 2, the year 1800 to 2100, the strength 0 to 3500, and the numbers beside these. */
    private static void rangesOfGames() {
        OpeningsCabinet x = new OpeningsCabinet();
        int number = 0;
        for (int result = 0; result <= 2; result++) {
            Check.same("result " + result, x.addGame(0, result, 1900, 1), number++);
        }
        for (int year : new int[] {1800, 1801, 2099, 2100}) {
            Check.same("year " + year, x.addGame(0, 0, year, 1), number++);
        }
        for (int strength : new int[] {0, 1, 3499, 3500}) {
            Check.same("strength " + strength, x.addGame(0, 0, 1900, strength), number++);
        }
        for (int result : new int[] {Integer.MIN_VALUE, -1, 3, 4, Integer.MAX_VALUE}) {
            Check.refuses("result " + result, ARGUMENT, () -> x.addGame(0, result, 1900, 1));
        }
        for (int year : new int[] {Integer.MIN_VALUE, -1900, 0, 1799, 2101, Integer.MAX_VALUE}) {
            Check.refuses("year " + year, ARGUMENT, () -> x.addGame(0, 0, year, 1));
        }
        for (int strength : new int[] {Integer.MIN_VALUE, -1, 3501, Integer.MAX_VALUE}) {
            Check.refuses("strength " + strength, ARGUMENT, () -> x.addGame(0, 0, 1900, strength));
        }
        Check.same("games", x.gameCount(0), number);
    }

    /** "A game that is added is a copy of the present game": what happens to that game afterwards is no part of it. */
    private static void copies() {
        OpeningsCabinet x = new OpeningsCabinet();
        Check.moves(x, "e4 e5");
        x.addGame(0, 0, 1900, 1);
        Check.same("the present game goes on", x.madeCount(), 2);
        x.takeBack();
        x.takeBack();
        Check.moves(x, "d4 d5 c4");
        Check.same("its length", x.gameLength(0, 0), 2);
        Check.same("it does not pass here", x.count(0), 0);
        x.startHere();
        Check.same("behind startHere", x.gameLength(0, 0), 2);
        x.addGame(0, 0, 1900, 1);
        Check.same("a game without moves", x.gameLength(0, 1), 0);
        x.put(0, 0);
        Check.same("its position is as it was", x.count(0), 0);
        Check.same("positions", x.positionCount(0), 4);
    }

    /** Games of no moves and of 80. */
    private static void shortestAndLongestGames() {
        OpeningsCabinet x = new OpeningsCabinet();
        x.addGame(0, 0, 1900, 1);
        Check.rounds(x, 20);
        x.addGame(0, 0, 1900, 1);
        Check.same("no moves", x.gameLength(0, 0), 0);
        Check.same("80 moves", x.gameLength(0, 1), 80);
        Check.same("mean length", x.meanLength(0), 40.0);
        Check.same("different positions", x.positionCount(0), 4);
        Check.same("the first new one", x.firstNew(0, 1), 1);
        Check.same("games that pass here", x.count(0), 2);
        Check.same("errors", x.errors(), 0);
        x.startHere();
        Check.same("the last position of 80 has no continuation of its own", x.continuations(0), 1);
        Check.same("what was made there before", Check.letters(x, x.continuationAt(0, 0)), "Nf3");
    }

    /** "IndexOutOfBoundsException is thrown for ... a game ... that does not exist". */
    private static void numbersOfGames() {
        OpeningsCabinet x = new OpeningsCabinet();
        add(x, 0, "e4", "d4 d5");
        add(x, 1, "c4");
        for (int game : new int[] {Integer.MIN_VALUE, -1, 2, 39, 40, Integer.MAX_VALUE}) {
            Check.refuses("gameLength " + game, INDEX, () -> x.gameLength(0, game));
            Check.refuses("firstNew " + game, INDEX, () -> x.firstNew(0, game));
        }
        Check.refuses("gameLength 1 of the shelf 1", INDEX, () -> x.gameLength(1, 1));
        Check.refuses("firstNew 1 of the shelf 1", INDEX, () -> x.firstNew(1, 1));
        Check.same("the last game", x.gameLength(0, 1) * 10 + x.firstNew(0, 1), 21);
        Check.same("the last game of the shelf 1", x.gameLength(1, 0) * 10 + x.firstNew(1, 0), 10);
    }

    /** "A game passes through its first position and through the positions behind its moves", up to the last one. */
    private static void positionsOfGames() {
        OpeningsCabinet x = new OpeningsCabinet();
        add(x, 0, "e4 e5 Nf3");
        String[] line = {"e4", "e5", "Nf3"};
        Check.same("through the first position", x.count(0), 1);
        for (String move : line) {
            Check.moves(x, move);
            Check.same("behind " + move, x.count(0), 1);
        }
        Check.moves(x, "Nc6");
        Check.same("behind the end", x.count(0), 0);
        x.takeBack();
        x.takeBack();
        Check.moves(x, "Nc3");
        Check.same("beside it", x.count(0), 0);
        // A position is met as a first one too, and by a game that came another way.
        x.takeBack();
        x.startHere();
        Check.same("as a first position", x.count(0), 1);
        add(x, 0, "");
        Check.same("two games", x.count(0), 2);
        OpeningsCabinet y = new OpeningsCabinet();
        add(y, 1, "Nf3 Nf6 Nc3");
        Check.moves(y, "Nc3 Nf6 Nf3");
        Check.same("another way", y.count(1), 1);
        y.takeBack();
        Check.same("ahead of it", y.count(1), 0);
        // On a position that is not proper no game passes through, but it can be asked.
        OpeningsCabinet z = new OpeningsCabinet();
        add(z, 0, "e4");
        z.put(4, 0);
        Check.same("not proper", z.count(0) + z.countWith(0, 0) + z.countYears(0, 1, 9999), 0);
        Check.same("share on it", z.shareWon(0), 0.0f);
        Check.refuses("strength on it", NOTHING, () -> z.meanStrength(0, false));
    }

    /** Promise 38: "Counts the different positions": of one game, of games that meet, of games that are alike. */
    private static void positionsThatDiffer() {
        OpeningsCabinet x = new OpeningsCabinet();
        add(x, 0, "");
        Check.same("one", x.positionCount(0), 1);
        add(x, 0, "e4");
        Check.same("two", x.positionCount(0), 2);
        add(x, 0, "e4");
        Check.same("still two", x.positionCount(0), 2);
        add(x, 0, "Nf3 Nf6 Ng1 Ng8 e4");
        Check.same("three more", x.positionCount(0), 5);
        add(x, 1, "e4");
        Check.same("of the other shelf", x.positionCount(1), 2);
        OpeningsCabinet y = new OpeningsCabinet();
        Check.moves(y, "e4 e5");
        y.startHere();
        add(y, 0, "Nf3");
        Check.same("a game from elsewhere", y.positionCount(0), 2);
        add(y, 0, "Nf3 Nc6 Ng1 Nb8");
        Check.same("there and back", y.positionCount(0), 4);
    }

    /** Promise 40: the results 0, 1 and 2, and those beside them. */
    private static void resultsOfGames() {
        OpeningsCabinet x = new OpeningsCabinet();
        for (int result = 0; result <= 2; result++) {
            for (int i = 0; i <= result; i++) {
                add(x, 0, "e4", result, 1900, 1);
            }
            Check.same("result " + result, x.countWith(0, result), result + 1);
            Check.same("on the other shelf", x.countWith(1, result), 0);
        }
        add(x, 0, "d4", 0, 1900, 1);
        Check.moves(x, "e4");
        Check.same("of those that pass here", x.countWith(0, 0), 1);
        Check.moves(x, "e5");
        Check.same("none passes here", x.countWith(0, 2), 0);
        for (int result : new int[] {Integer.MIN_VALUE, -1, 3, Integer.MAX_VALUE}) {
            Check.refuses("result " + result, ARGUMENT, () -> x.countWith(0, result));
            Check.refuses("result " + result + " of the empty shelf", ARGUMENT, () -> x.countWith(1, result));
            Check.refuses("result " + result + " of no shelf", INDEX, () -> x.countWith(2, result));
        }
    }

    /** Promise 41: the first and the last year are of them; "at least from": the same year, and one less. */
    private static void yearsOfGames() {
        OpeningsCabinet x = new OpeningsCabinet();
        for (int year : new int[] {1800, 1899, 1900, 1901, 2100}) {
            add(x, 0, "e4", 0, year, 1);
        }
        Check.same("one year", x.countYears(0, 1900, 1900), 1);
        Check.same("from the year before", x.countYears(0, 1899, 1900), 2);
        Check.same("up to the year behind", x.countYears(0, 1900, 1901), 2);
        Check.same("the year between", x.countYears(0, 1902, 2099), 0);
        Check.same("the first year", x.countYears(0, 1800, 1800), 1);
        Check.same("up to the first year", x.countYears(0, -5, 1800), 1);
        Check.same("the last year", x.countYears(0, 2100, 2100), 1);
        Check.same("from the last year", x.countYears(0, 2100, 9999), 1);
        Check.same("all years", x.countYears(0, 1800, 2100), 5);
        Check.same("all but the ends", x.countYears(0, 1801, 2099), 3);
        Check.same("all numbers", x.countYears(0, Integer.MIN_VALUE, Integer.MAX_VALUE), 5);
        Check.same("no such years", x.countYears(0, Integer.MIN_VALUE, Integer.MIN_VALUE), 0);
        Check.same("no such years", x.countYears(0, Integer.MAX_VALUE, Integer.MAX_VALUE), 0);
        Check.refuses("backward", ARGUMENT, () -> x.countYears(0, 1901, 1900));
        Check.refuses("backward without games", ARGUMENT, () -> x.countYears(1, 1901, 1900));
        Check.refuses("all backward", ARGUMENT, () -> x.countYears(0, Integer.MAX_VALUE, Integer.MIN_VALUE));
        Check.moves(x, "d4");
        Check.same("none passes here", x.countYears(0, 1800, 2100), 0);
    }

    private static void strength(OpeningsCabinet x, int shelf, int top, int bottom) {
        Check.same("top", x.meanStrength(shelf, false), top);
        Check.same("bottom", x.meanStrength(shelf, true), bottom);
    }

    /** Promise 42: "(0 through 1 if it is 0)", the greatest sum there is, and none. */
    private static void strengthsOfGames() {
        OpeningsCabinet x = new OpeningsCabinet();
        Check.refuses("no game", NOTHING, () -> x.meanStrength(0, false));
        for (int game = 0; game < 40; game++) {
            x.addGame(0, 0, 1900, 0);
            x.addGame(1, 0, 1900, 3500);
            strength(x, 0, 0, 1);
            strength(x, 1, 3500, 1);
        }
        Check.moves(x, "e4");
        Check.refuses("no game passes here", NOTHING, () -> x.meanStrength(0, true));
        Check.refuses("no game passes here", NOTHING, () -> x.meanStrength(1, false));
        x.takeBack();
        strength(x, 0, 0, 1);
        OpeningsCabinet y = new OpeningsCabinet();
        for (int game = 0; game < 40; game++) {
            y.addGame(0, 0, 1900, game == 0 ? 3499 : 3500);
        }
        strength(y, 0, 139999, 40);
    }

    /** "as a fraction in lowest terms", of those that pass through the present position alone. */
    private static void lowestTerms() {
        OpeningsCabinet x = new OpeningsCabinet();
        int[] strengths = {1, 2, 4, 1, 4, 0, 9, 3};
        int[] tops = {1, 3, 7, 2, 12, 2, 3, 3};
        int[] bottoms = {1, 2, 3, 1, 5, 1, 1, 1};
        for (int i = 0; i < strengths.length; i++) {
            add(x, 0, "e4", 0, 1900, strengths[i]);
            strength(x, 0, tops[i], bottoms[i]);
        }
        add(x, 0, "d4", 0, 1900, 3500);
        strength(x, 0, 3524, 9);
        Check.moves(x, "e4");
        strength(x, 0, 3, 1);
        Check.refuses("the other shelf", NOTHING, () -> x.meanStrength(1, false));
    }

    /** The continuations of a position, with the number of games of each. */
    private static String continuations(OpeningsCabinet x, int shelf) {
        StringBuilder all = new StringBuilder();
        int number = x.continuations(shelf);
        for (int i = 0; i < number; i++) {
            all.append(Check.letters(x, x.continuationAt(shelf, i))).append(':').append(x.gamesOf(shelf, i))
                    .append(' ');
        }
        for (int index : new int[] {Integer.MIN_VALUE, -1, number, number + 1, Integer.MAX_VALUE}) {
            Check.refuses("continuationAt " + index, INDEX, () -> x.continuationAt(shelf, index));
            Check.refuses("gamesOf " + index, INDEX, () -> x.gamesOf(shelf, index));
        }
        return all.toString();
    }

    /** No continuation: at the end of games, where none passes, and where there are no moves. */
    private static void noContinuations() {
        OpeningsCabinet x = new OpeningsCabinet();
        add(x, 0, "", "f3 e5 g4 Qh4#");
        Check.same("at the start", continuations(x, 0), "f3:1 ");
        Check.moves(x, "e4");
        Check.same("where none passes", continuations(x, 0), "");
        x.takeBack();
        Check.moves(x, "f3 e5 g4 Qh4#");
        Check.same("behind mate", continuations(x, 0), "");
        Check.same("the other shelf", continuations(x, 1), "");
    }

    /** "numbered from 0 in the order of their letters (as texts by their bytes)". */
    private static void orderOfContinuations() {
        OpeningsCabinet x = Check.at("7k/P5p1/1N3N2/8/1N3N2/3p4/4P3/4K3 w - -");
        add(x, 0, "exd3", "e3", "a8=R#", "Nfxd3", "e4", "a8=N", "Nf6d5", "Nc2",
                "a8=Q#", "Nb6d5", "Nbxd3", "a8=B", "Nb4d5", "Nf4d5");
        Check.same("with knights and pawns", continuations(x, 0),
                "Nb4d5:1 Nb6d5:1 Nbxd3:1 Nc2:1 Nf4d5:1 Nf6d5:1 Nfxd3:1 "
                + "a8=B:1 a8=N:1 a8=Q#:1 a8=R#:1 e3:1 e4:1 exd3:1 ");
        OpeningsCabinet y = Check.at("4k3/8/8/8/8/8/6P1/R3K2R w KQ -");
        add(y, 0, "g4", "O-O-O", "Rh8+", "O-O", "Rd1", "Kf1", "Ra8+", "Rb1", "g3");
        Check.same("with castlings", continuations(y, 0),
                "Kf1:1 O-O:1 O-O-O:1 Ra8+:1 Rb1:1 Rd1:1 Rh8+:1 g3:1 g4:1 ");
    }

    /** "the number of games of a continuation is the number of games that made it there at least once". */
    private static void gamesOfContinuations() {
        OpeningsCabinet x = new OpeningsCabinet();
        add(x, 0, "e4 e5", "e4 c5", "d4", "e4", "e4 e5 Nf3", "");
        Check.same("at the start", continuations(x, 0), "d4:1 e4:4 ");
        Check.moves(x, "e4");
        Check.same("behind e4", continuations(x, 0), "c5:1 e5:2 ");
        x.takeBack();
        for (int game = 0; game < 34; game++) {
            x.addGame(0, 0, 1900, 1);
        }
        Check.same("with a full shelf", continuations(x, 0), "d4:1 e4:4 ");
    }

    /** "(a game that passed through it several times made several of them)", each of them counted once. */
    private static void continuationsMadeSeveralTimes() {
        OpeningsCabinet x = new OpeningsCabinet();
        add(x, 0, "Nf3 Nf6 Ng1 Ng8 Nc3 Nc6 Nb1 Nb8 Nf3");
        Check.same("two moves of one game", continuations(x, 0), "Nc3:1 Nf3:1 ");
        Check.same("it is one game", x.count(0), 1);
        add(x, 0, "Nf3 Nf6 Ng1 Ng8 Nf3 Nf6 Ng1 Ng8");
        Check.same("the same move several times", continuations(x, 0), "Nc3:1 Nf3:2 ");
        Check.rounds(x, 1);
        Check.same("the position when it stands again", continuations(x, 0), "Nc3:1 Nf3:2 ");
    }

    /** Promises 44 and 45 need no other call ahead of them: each tells of the shelf and the position that there are. */
    private static void continuationsAskedAlone() {
        OpeningsCabinet x = new OpeningsCabinet();
        add(x, 0, "d4", "d4 d5", "e4");
        add(x, 1, "Nf3", "c4 c5", "c4");
        Check.same("the first move of the shelf 1", Check.letters(x, x.continuationAt(1, 0)), "Nf3");
        Check.same("the first move of the shelf 0", Check.letters(x, x.continuationAt(0, 0)), "d4");
        Check.same("the second move of the shelf 1", Check.letters(x, x.continuationAt(1, 1)), "c4");
        Check.same("the second move of the shelf 0", Check.letters(x, x.continuationAt(0, 1)), "e4");
        Check.refuses("the third move of the shelf 1", INDEX, () -> x.continuationAt(1, 2));
        Check.same("games of the first move of the shelf 0", x.gamesOf(0, 0), 2);
        Check.same("games of the first move of the shelf 1", x.gamesOf(1, 0), 1);
        Check.same("games of the second move of the shelf 0", x.gamesOf(0, 1), 1);
        Check.same("games of the second move of the shelf 1", x.gamesOf(1, 1), 2);
        Check.moves(x, "d4");
        Check.same("behind d4", x.gamesOf(0, 0), 1);
        Check.same("its move", Check.letters(x, x.continuationAt(0, 0)), "d5");
        Check.refuses("behind d4 on the shelf 1", INDEX, () -> x.continuationAt(1, 0));
        x.takeBack();
        x.merge();
        Check.same("when they are merged", x.gamesOf(0, 1), 2);
        Check.refuses("the shelf 1 then", INDEX, () -> x.gamesOf(1, 0));
        x.addGame(1, 0, 1900, 1);
        Check.refuses("a game without moves", INDEX, () -> x.continuationAt(1, 0));
        Check.same("the first one of the shelf 0", Check.letters(x, x.continuationAt(0, 0)), "Nf3");
    }

    /** Games that begin at another position have their continuations where they meet. */
    private static void positionsFromElsewhere() {
        OpeningsCabinet x = new OpeningsCabinet();
        Check.moves(x, "Nf3 Nf6");
        x.startHere();
        add(x, 0, "Ng1 Ng8 c4");
        x.newBoard(8, 8);
        Check.same("gone with the board", x.gameCount(0), 0);
        OpeningsCabinet y = new OpeningsCabinet();
        Check.moves(y, "Nf3 Nf6");
        y.startHere();
        add(y, 1, "Ng1 Ng8 c4");
        Check.moves(y, "Ng1 Ng8");
        Check.same("at the usual start", continuations(y, 1), "c4:1 ");
        // Other rights are another position.
        OpeningsCabinet z = new OpeningsCabinet();
        add(z, 0, "e4");
        z.setSide(true, 14);
        Check.same("without a right", continuations(z, 0), "");
    }

    /** Promise 46: 1 to 80 moves, and the numbers beside these; "as long as there is one". */
    private static void mainMoves() {
        OpeningsCabinet x = new OpeningsCabinet();
        add(x, 0, "e4 e5 Nf3", "e4 e5 Nc3", "e4 c5", "d4");
        for (int moves : new int[] {Integer.MIN_VALUE, -1, 0, 81, 82, Integer.MAX_VALUE}) {
            Check.refuses("playMain " + moves, ARGUMENT, () -> x.playMain(0, moves));
            Check.refuses("playMain " + moves + " of the empty shelf", ARGUMENT, () -> x.playMain(1, moves));
        }
        Check.same("no move was made", x.madeCount(), 0);
        Check.same("one", x.playMain(0, 1), 1);
        Check.same("made", x.madeCount(), 1);
        Check.same("of two one more", x.playMain(0, 1), 1);
        Check.same("of 80 the last one", x.playMain(0, 80), 1);
        Check.same("paper", Check.paper(x), "rnbqkbnr/pppp1ppp/8/4p3/4P3/2N5/PPPP1PPP/R1BQKBNR b KQkq -");
        Check.same("none is left", x.playMain(0, 80), 0);
        Check.same("none on the other shelf", x.playMain(1, 80), 0);
    }

    /** "as moves are asked and can be made": up to the 80th move of the game. */
    private static void mostMainMoves() {
        OpeningsCabinet x = new OpeningsCabinet();
        add(x, 0, "Nf3 Nf6 Ng1 Ng8");
        Check.same("79 asked", x.playMain(0, 79), 79);
        Check.same("one can be made", x.playMain(0, 2), 1);
        Check.same("made", x.madeCount(), 80);
        Check.same("none can be made", x.playMain(0, 80), 0);
        x.takeBack();
        Check.same("one again", x.playMain(0, 80), 1);
        x.startHere();
        Check.same("80 asked", x.playMain(0, 80), 80);
        x.startHere();
        Check.same("one asked", x.playMain(0, 1), 1);
        Check.same("78 asked", x.playMain(0, 78), 78);
        Check.same("80 asked with one left", x.playMain(0, 80), 1);
    }

    /** "the continuation with the most games, of several the first one": by letters, not by numbers of moves. */
    private static void equalMainMoves() {
        String paper = "4k3/8/8/8/8/8/6P1/R3K2R w KQ -";
        main(paper, "Kd2", "Ra2", "Kd2");
        main(paper, "O-O", "Ra2", "O-O", "g3");
        main(paper, "Ra2", "Ra2", "g3");
        main(paper, "g3", "Ra2", "g3", "g3");
        main(paper, "Ra2", "Kd2", "Ra2", "Ra2", "O-O");
        main(paper, "Rh2", "Kd2", "Rh2", "Ra2", "Ra2", "Rh2", "Rh2");
        main(paper, "O-O", "O-O-O", "O-O");
        // The first and the last move of the position.
        main(paper, "Rb1", "Rb1");
        main(paper, "g4", "g4");
    }

    private static void main(String paper, String due, String... games) {
        OpeningsCabinet x = Check.at(paper);
        add(x, 1, games);
        Check.same("playMain", x.playMain(1, 5), 1);
        String made = Check.paper(x);
        x.takeBack();
        Check.moves(x, due);
        Check.same("the main move of " + String.join(" ", games), made, Check.paper(x));
    }

    /** Promise 47: 0, the length of the game, and NONE. */
    private static void firstNewPositions() {
        OpeningsCabinet x = new OpeningsCabinet();
        add(x, 0, "e4 e5 Nf3", "e4 e5 Nf3", "e4 e5", "e4 e5 Nf3 Nc6", "e4 c5 Nf3", "d4", "");
        int[] due = {0, NONE, NONE, 4, 2, 1, NONE};
        for (int game = 0; game < due.length; game++) {
            Check.same("game " + game, x.firstNew(0, game), due[game]);
        }
        add(x, 1, "");
        Check.same("a game without moves", x.firstNew(1, 0), 0);
        add(x, 1, "", "e4");
        Check.same("the same one again", x.firstNew(1, 1), NONE);
        Check.same("the first move", x.firstNew(1, 2), 1);
    }

    /** "if a game with a lower number on the same shelf passes through it": no later one, none of the other shelf. */
    private static void knownByLowerNumbers() {
        OpeningsCabinet x = new OpeningsCabinet();
        add(x, 1, "e4 e5 Nf3");
        add(x, 0, "e4", "e4 e5 Nf3", "e4 e5 Nf3");
        Check.same("by the other shelf nothing is known", x.firstNew(0, 0), 0);
        Check.same("by a later game nothing is known", x.firstNew(0, 1), 2);
        Check.same("by the game before all is", x.firstNew(0, 2), NONE);
        // Behind a new position others may be known: the first one counts.
        add(x, 0, "Nf3 e5 e4 Nc6");
        Check.same("another way", x.firstNew(0, 3), 1);
        // A position that stands twice in the game itself is not known by that.
        OpeningsCabinet y = new OpeningsCabinet();
        add(y, 0, "Nf3 Nf6 Ng1 Ng8");
        Check.same("alone", y.firstNew(0, 0), 0);
        add(y, 0, "Nf3 Nf6 Ng1 Ng8 Nf3 Nf6 Ng1 Ng8 Nc3");
        Check.same("at the end", y.firstNew(0, 1), 9);
    }

    /** Merging without games: on no shelf, on one of them. */
    private static void mergingNothing() {
        OpeningsCabinet x = new OpeningsCabinet();
        Check.same("no games", x.merge(), 0);
        add(x, 0, "e4");
        Check.same("none on the shelf 1", x.merge(), 0);
        Check.same("the shelf 0 is as it was", x.gameCount(0) * 10 + x.gameLength(0, 0), 11);
        OpeningsCabinet y = new OpeningsCabinet();
        add(y, 1, "e4", "d4", "e4");
        Check.same("none on the shelf 0", y.merge(), 2);
        Check.same("games", y.gameCount(0) * 10 + y.gameCount(1), 20);
        Check.same("again", y.merge(), 0);
    }

    /** "as long as there is room": for none, for one, for all of 40; "games for which there was no room are gone". */
    private static void mergingWithRoom() {
        for (int there : new int[] {37, 38, 39, 40}) {
            OpeningsCabinet x = new OpeningsCabinet();
            for (int game = 0; game < there; game++) {
                x.addGame(0, 0, 1900, 1);
            }
            // The first one and the third one are left out, and take no room.
            add(x, 1, "", "a3", "a3", "b3", "c3");
            int came = Math.min(3, 40 - there);
            Check.same("came to " + there, x.merge(), came);
            Check.same("games", x.gameCount(0), there + came);
            Check.same("the shelf 1", x.gameCount(1) + x.positionCount(1), 0);
            Check.same("by ascending numbers", continuations(x, 0), "a3:1 b3:1 c3:1 ".substring(0, 5 * came));
            Check.same("nothing comes again", x.merge(), 0);
        }
        // 40 different games come to an empty shelf: their first positions differ by one pawn.
        OpeningsCabinet y = new OpeningsCabinet();
        for (int game = 0; game < 40; game++) {
            int square = game < 24 ? 16 + game : game;
            y.put(square, game < 24 ? 6 : 12);
            Check.same("number", y.addGame(1, 0, 1900, 1), game);
            y.put(square, 0);
        }
        Check.same("all come to an empty shelf", y.merge(), 40);
        Check.same("games", y.gameCount(0) * 100 + y.gameCount(1), 4000);
        y.addGame(1, 0, 1900, 1);
        Check.same("none comes to a full one", y.merge(), 0);
        Check.same("it is gone", y.gameCount(1), 0);
        Check.same("positions", y.positionCount(0), 40);
    }

    /** "if a game on the shelf 0 then has the same first position and the same moves": then, and both of these. */
    private static void mergingLikeGames() {
        OpeningsCabinet x = new OpeningsCabinet();
        add(x, 0, "e4 e5", "e4 e5");
        add(x, 1, "e4 e5", "e4", "e4 e5 Nf3", "e4 c5", "", "Nf3 Nf6 Ng1 Ng8");
        Check.same("all but the first", x.merge(), 5);
        Check.same("games", x.gameCount(0), 7);
        // One that came by this merging is on the shelf 0 then.
        OpeningsCabinet y = new OpeningsCabinet();
        add(y, 1, "d4", "e4", "d4", "e4", "d4");
        Check.same("each once", y.merge(), 2);
        // Result, year and strength are no part of it.
        OpeningsCabinet z = new OpeningsCabinet();
        add(z, 0, "d4", 0, 1900, 1);
        add(z, 1, "d4", 2, 2000, 3000);
        Check.same("another result, year and strength", z.merge(), 0);
        Check.same("the game that was there stays", z.countWith(0, 0), 1);
        // The same moves from other first positions.
        OpeningsCabinet w = new OpeningsCabinet();
        add(w, 0, "e4");
        w.setSide(true, 14);
        add(w, 1, "e4");
        w.put(8, 0);
        add(w, 1, "e4");
        w.put(8, 6);
        w.setSide(true, 15);
        add(w, 1, "e4");
        Check.same("other first positions", w.merge(), 2);
        // The same positions all the way, by other moves of other knights, are other games.
        OpeningsCabinet v = Check.at("4k3/8/8/8/8/8/8/4K3 w - -");
        add(v, 0, "Kd1 Kd8 Ke1 Ke8");
        add(v, 1, "Kd1 Kd8 Ke1 Ke8", "Kd2 Kd8 Ke1 Ke8", "Kd1 Kd8 Ke1");
        Check.same("another way between", v.merge(), 2);
    }

    /** What comes along: the length, the result, the year, the strength; what is known is told anew; box and due 0. */
    private static void mergedGames() {
        OpeningsCabinet x = new OpeningsCabinet();
        add(x, 0, "e4 e5", 1, 1900, 7);
        add(x, 1, "e4 e5 Nf3", 2, 2000, 3000);
        Check.same("ahead", x.firstNew(1, 0), 0);
        Check.same("came", x.merge(), 1);
        Check.same("its length", x.gameLength(0, 1), 3);
        Check.same("its result", x.countWith(0, 2), 1);
        Check.same("its year", x.countYears(0, 2000, 2000), 1);
        Check.same("strengths", x.meanStrength(0, false) * 10 + x.meanStrength(0, true), 30072);
        Check.same("what is new in it now", x.firstNew(0, 1), 3);
        Check.same("positions", x.positionCount(0), 4);
        Check.same("the shelf 1", x.gameCount(1) + x.positionCount(1) + x.count(1), 0);
        Check.same("the next game there", x.addGame(1, 0, 1900, 1), 0);
        OpeningsCabinet y = new OpeningsCabinet();
        add(y, 0, "e4");
        for (int i = 0; i < 4; i++) {
            y.answer(true);
        }
        add(y, 1, "d4");
        y.merge();
        Check.same("with the due number 0 it is asked", y.asked(), 1);
        Check.same("with the box 0", y.answer(true), 1);
        Check.same("due at 5 + 2, before the other at 4 + 16", y.asked(), 1);
    }

    /** Promise 60: "0.0 without games"; sums and quotients as doubles. */
    private static void means() {
        OpeningsCabinet x = new OpeningsCabinet();
        Check.same("without games", x.meanLength(0), 0.0);
        add(x, 0, "");
        Check.same("no moves", x.meanLength(0), 0.0);
        add(x, 0, "e4");
        Check.same("one move of two games", x.meanLength(0), 1.0 / 2.0);
        add(x, 0, "d4");
        Check.same("two of three", x.meanLength(0), 2.0 / 3.0);
        add(x, 1, "e4 e5");
        Check.same("the other shelf", x.meanLength(1), 2.0);
        Check.moves(x, "a3");
        Check.same("wherever the present position is", x.meanLength(0), 2.0 / 3.0);
        for (int game = 3; game < 40; game++) {
            x.addGame(0, 0, 1900, 1);
        }
        Check.same("a full shelf", x.meanLength(0), 39.0 / 40.0);
    }

    /** Promise 61: "0.0f without any"; none won, all won, and quotients as floats. */
    private static void shares() {
        OpeningsCabinet x = new OpeningsCabinet();
        Check.same("without games", x.shareWon(0), 0.0f);
        add(x, 0, "e4", 2, 1900, 1);
        Check.same("none won", x.shareWon(0), 0.0f);
        add(x, 0, "e4", 0, 1900, 1);
        add(x, 0, "d4", 1, 1900, 1);
        Check.same("one of three", x.shareWon(0), 1.0f / 3.0f);
        add(x, 1, "d4", 0, 1900, 1);
        Check.same("all of one", x.shareWon(1), 1.0f);
        Check.moves(x, "e4");
        Check.same("of those that pass here", x.shareWon(0), 0.5f);
        Check.same("none passes here", x.shareWon(1), 0.0f);
        Check.moves(x, "e5");
        Check.same("none at all", x.shareWon(0), 0.0f);
        OpeningsCabinet y = new OpeningsCabinet();
        for (int game = 0; game < 40; game++) {
            y.addGame(0, game < 39 ? 0 : 2, 1900, 1);
        }
        Check.same("39 of 40", y.shareWon(0), 39.0f / 40.0f);
    }
}
