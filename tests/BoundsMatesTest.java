import java.util.NoSuchElementException;

/** The bounds of section 10 and of promises 52 to 54: mates in 1, in 3, in no less than 5, and none at all. */
public final class BoundsMatesTest {
    private static final Class<IllegalStateException> STATE = IllegalStateException.class;
    private static final Class<NoSuchElementException> NOTHING = NoSuchElementException.class;
    private static final int NONE = OpeningsCabinet.NONE;

    public static void main(String[] args) {
        matesInOne();
        matesInThree();
        noMates();
        oneAheadOfThree();
        staleIsNoKey();
        keysOfPromotions();
        matesOfBlack();
        statesThatDoNotHinder();
        notProper();
        Check.end("BoundsMatesTest");
    }

    /** Length, number of keys, and the letters of the first one. */
    private static void forces(String paper, int length, int keys, String first) {
        OpeningsCabinet x = Check.at(paper);
        Check.same("length in " + paper, x.forcesMate(), length);
        Check.same("keys in " + paper, x.keyCount(), keys);
        if (keys == 0) {
            Check.refuses("first key in " + paper, NOTHING, x::firstKey);
        } else {
            int key = x.firstKey();
            Check.same("first key in " + paper, Check.letters(x, key), first);
            Check.same("keys by playing in " + paper, keysByPlaying(x, length, key), keys);
        }
        Check.same("the position behind it", Check.paper(x), paper);
        Check.same("the game behind it", x.madeCount(), 0);
    }

    /** Counts the keys by making the moves; none of them may stand ahead of the first key. */
    private static int keysByPlaying(OpeningsCabinet x, int length, int first) {
        int keys = 0;
        int number = x.moveCount();
        for (int move = 0; move < number; move++) {
            int state = x.play(move);
            boolean isKey = length == 1 ? state == OpeningsCabinet.MATE : isLost(x);
            x.takeBack();
            keys += isKey ? 1 : 0;
            Check.same("no key ahead of the first one", isKey && move < first, false);
            Check.same("the first one is a key", move != first || isKey, true);
        }
        return keys;
    }

    /** Whether there are moves, and a mate behind each of them. */
    private static boolean isLost(OpeningsCabinet x) {
        int number = x.moveCount();
        boolean isLost = number > 0;
        for (int move = 0; move < number && isLost; move++) {
            x.play(move);
            isLost = x.forcesMate() == 1;
            x.takeBack();
        }
        return isLost;
    }

    /** n = 1: one key and several. */
    private static void matesInOne() {
        forces("k7/8/1K6/8/8/8/8/7R w - -", 1, 1, "Rh8#");
        forces("k7/8/1K6/8/8/8/8/6RR w - -", 1, 2, "Rg8#");
        forces("k7/8/1K6/8/8/8/8/5QRR w - -", 1, 3, "Qf8#");
        forces("k3/4/1K2/3R w - -", 1, 1, "Rd4#");
        forces("6rk/6pp/8/6N1/8/8/8/K7 w - -", 1, 1, "Nf7#");
    }

    /** n = 3: one key, several; the other side has one move, or several. */
    private static void matesInThree() {
        forces("7k/8/8/8/8/8/R7/1R4K1 w - -", 3, 2, "Rb7");
        forces("k7/8/2K5/8/8/8/8/6Q1 w - -", 3, 3, "Qb1");
        forces("k7/8/2K5/8/8/8/8/7R w - -", 3, 2, "Kb6");
        forces("8/2Q4B/8/8/6K1/8/8/7k w - -", 3, 1, "Kg3");
    }

    /** Longer mates are none, nor is a position in which one defence goes on, or in which there are no moves. */
    private static void noMates() {
        forces("8/7k/8/8/8/8/R7/1R4K1 w - -", NONE, 0, "");
        forces("8/8/7k/8/8/8/R7/1R4K1 w - -", NONE, 0, "");
        forces("k7/8/4K3/8/8/8/8/7R w - -", NONE, 0, "");
        forces("4k3/8/8/8/8/8/8/4K2R w K -", NONE, 0, "");
        forces("k7/1Q6/1K6/8/8/8/8/8 b - -", NONE, 0, "");
        forces("k7/2Q5/1K6/8/8/8/8/8 b - -", NONE, 0, "");
        forces("k3/4/4/3K w - -", NONE, 0, "");
        forces("rnbqkbnr/pppppppp/8/8/8/8/PPPPPPPP/RNBQKBNR w KQkq -", NONE, 0, "");
        // The side that is mated next does not force anything itself.
        forces("k7/8/1K6/8/8/8/8/7R b - -", NONE, 0, "");
    }

    /** "Returns in how many half moves": with a mate in 1 there is no talk of those in 3. */
    private static void oneAheadOfThree() {
        OpeningsCabinet x = Check.at("6k1/R7/8/8/8/8/8/1R4K1 w - -");
        Check.same("the shorter one", x.forcesMate(), 1);
        Check.same("its keys alone", x.keyCount(), 1);
        Check.same("its first key", Check.letters(x, x.firstKey()), "Rb8#");
    }

    /** "a move behind which the other side has moves": stalemate and mate are no keys of 3. */
    private static void staleIsNoKey() {
        OpeningsCabinet x = Check.at("k7/8/2K5/8/8/8/8/6Q1 w - -");
        StringBuilder keys = new StringBuilder();
        for (String letters : new String[] {"Kc7", "Qb6", "Qb1", "Qg7", "Qg8+"}) {
            Check.moves(x, letters);
            int state = x.state();
            keys.append(letters).append(state == OpeningsCabinet.STALE ? " stale " : " ").append(isLost(x))
                    .append(", ");
            x.takeBack();
        }
        Check.same("keys", keys.toString(), "Kc7 stale false, Qb6 stale false, Qb1 true, Qg7 true, Qg8+ false, ");
        Check.same("their number", x.keyCount(), 3);
    }

    /** Moves that differ only in what the pawn becomes are keys each. */
    private static void keysOfPromotions() {
        forces("7k/P5pp/8/8/8/8/8/K7 w - -", 1, 2, "a8=Q#");
        forces("1r5k/P5pp/8/8/8/8/8/K7 w - -", 1, 2, "axb8=Q#");
        OpeningsCabinet x = Check.at("7k/P5pp/8/8/8/8/8/K7 w - -");
        Check.same("the queen comes first", x.moveBecomes(x.firstKey()), 2);
    }

    /** The side to move may be Black. */
    private static void matesOfBlack() {
        forces("7r/8/8/8/8/1k6/8/K7 b - -", 1, 1, "Rh1#");
        forces("1r4k1/r7/8/8/8/8/8/7K b - -", 3, 2, "Ra2");
        forces("7r/8/8/8/8/1k6/8/K7 w - -", NONE, 0, "");
    }

    /** Neither 80 moves nor DEAD, REPEATED or QUIET positions hinder a mate that is asked for. */
    private static void statesThatDoNotHinder() {
        OpeningsCabinet x = Check.at("1k6/8/1K6/8/8/8/8/7R b - -");
        for (int i = 0; i < 19; i++) {
            Check.moves(x, "Ka8 Rg1 Kb8 Rh1");
        }
        Check.moves(x, "Ka8 Rg1 Kb8");
        Check.same("79 moves, quiet and repeated", x.state(), OpeningsCabinet.REPEATED);
        Check.same("a mate in 1", x.forcesMate(), 1);
        Check.same("its key", Check.letters(x, x.firstKey()), "Rg8#");
        Check.moves(x, "Rh1");
        Check.same("80 moves, Black to move", x.forcesMate(), NONE);
        Check.same("no keys", x.keyCount(), 0);
        // The 81st move would mate: it cannot be made, but it is asked for all the same.
        OpeningsCabinet y = Check.at("k7/8/1K6/8/8/8/8/7R w - -");
        for (int i = 0; i < 20; i++) {
            Check.moves(y, "Rg1 Kb8 Rh1 Ka8");
        }
        Check.same("80 moves", y.madeCount(), 80);
        Check.same("a mate behind 80 moves", y.forcesMate() * 10 + y.keyCount(), 11);
    }

    /** "Throws IllegalStateException if the first position is not proper". */
    private static void notProper() {
        OpeningsCabinet x = Check.placed("k7/8/1K6/8/8/8/8/7R", true, 1);
        Check.refuses("forcesMate", STATE, x::forcesMate);
        Check.refuses("keyCount", STATE, x::keyCount);
        Check.refuses("firstKey", STATE, x::firstKey);
        x.setSide(true, 0);
        Check.same("forcesMate of a proper one", x.forcesMate(), 1);
        x.newBoard(4, 4);
        Check.refuses("firstKey without kings", STATE, x::firstKey);
    }
}
