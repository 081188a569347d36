/** Promises 55 to 57: endings. */
public final class EndingsTest {
    private static final Class<IllegalArgumentException> ARGUMENT = IllegalArgumentException.class;
    private static final Class<IllegalStateException> STATE = IllegalStateException.class;
    /** Files, ranks, kind, positions that White wins, greatest value, as the oracle's sweeps found them. */
    private static final int[][] KNOWN = {
        {4, 4, 2, 2252, 8}, {4, 4, 3, 2884, 14}, {4, 4, 4, 0, -1}, {4, 4, 5, 0, -1},
        {5, 4, 2, 5554, 10}, {5, 4, 3, 6762, 18}, {5, 4, 4, 0, -1}, {5, 4, 5, 0, -1},
        {4, 5, 2, 5554, 10}, {4, 5, 3, 6762, 18}, {4, 5, 4, 0, -1}, {4, 5, 5, 0, -1},
        {5, 5, 2, 12984, 12}, {5, 5, 3, 15324, 20}, {5, 5, 4, 0, -1}, {5, 5, 5, 0, -1},
        {4, 6, 2, 11244, 12}, {4, 6, 3, 13212, 20}, {4, 6, 4, 0, -1}, {4, 6, 5, 0, -1},
        {6, 4, 2, 11244, 12}, {6, 4, 3, 13212, 20}, {6, 4, 4, 0, -1}, {6, 4, 5, 0, -1},
    };

    public static void main(String[] args) {
        known();
        values();
        bestPlay();
        refused();
        Check.end("EndingsTest");
    }

    private static void known() {
        OpeningsCabinet x = new OpeningsCabinet();
        for (int[] k : KNOWN) {
            String what = "ending " + k[2] + " on " + k[0] + " files and " + k[1] + " ranks";
            x.newBoard(k[0], k[1]);
            Check.refuses("longest of the unsolved " + what, STATE, () -> x.longest(k[2]));
            Check.same("positions of the " + what, x.solve(k[2]), k[3]);
            Check.same("longest of the " + what, x.longest(k[2]), k[4]);
            Check.same("positions again of the " + what, x.solve(k[2]), k[3]);
            Check.same("the board is empty still", x.material(true) + x.madeCount(), 0);
        }
        OpeningsCabinet y = new OpeningsCabinet();
        y.newBoard(4, 4);
        for (int kind = 2; kind <= 5; kind++) {
            y.solve(kind);
        }
        Check.same("all kinds stay solved", y.longest(2) * 100 + y.longest(3), 814);
    }

    private static int value(String paper) {
        OpeningsCabinet x = Check.at(paper);
        for (int kind = 2; kind <= 5; kind++) {
            x.solve(kind);
        }
        return x.endingValue();
    }

    private static void values() {
        Check.same("mate", value("k3/1Q2/2K1/4 b - -"), 0);
        Check.same("mate in 1", value("k3/3Q/2K1/4 w - -"), 1);
        Check.same("a lost queen", value("k3/1Q2/4/3K b - -"), -1);
        Check.same("a queen that stalemates", value("k3/2Q1/4/3K b - -"), -1);
        Check.same("a bishop", value("k3/4/1K1B/4 w - -"), -1);
        Check.same("a knight", value("k3/4/1KN1/4 w - -"), -1);
        Check.same("mate by a rook", value("k2R/4/1K2/4 b - -"), 0);
        OpeningsCabinet x = Check.at("k3/3Q/2K1/4 w - -");
        x.solve(2);
        Check.same("White wins", x.endingValue() > 0, true);
        Check.moves(x, "Qb3#");
        Check.same("behind its move", x.endingValue(), 0);
    }

    /** From the longest won positions the values fall by one each half move when both sides play their best. */
    private static void bestPlay() {
        for (int kind = 2; kind <= 3; kind++) {
            OpeningsCabinet x = new OpeningsCabinet();
            x.newBoard(5, 5);
            x.solve(kind);
            int longest = x.longest(kind);
            boolean isFound = false;
            for (int start = 0; start < 25 * 25 * 25 && !isFound; start++) {
                isFound = place(x, kind, start % 25, start / 25 % 25, start / 625, longest);
            }
            Check.same("a position of the greatest value", isFound, true);
            for (int value = longest; value > 0 && isFound; value--) {
                Check.same("value", x.endingValue(), value);
                Check.same("a best move", playBest(x, value - 1), true);
            }
            Check.same("mate at the end", x.state(), OpeningsCabinet.MATE);
        }
    }

    private static boolean place(OpeningsCabinet x, int kind, int king, int rival, int piece, int value) {
        if (king == rival || king == piece || rival == piece) {
            return false;
        }
        int[] squares = {king, rival, piece};
        int[] pieces = {1, 7, kind};
        for (int i = 0; i < 3; i++) {
            x.put(squares[i], pieces[i]);
        }
        x.setSide(value % 2 == 1, 0);
        boolean isIt = x.isProper() && x.endingValue() == value;
        for (int i = 0; i < 3 && !isIt; i++) {
            x.put(squares[i], 0);
        }
        return isIt;
    }

    private static boolean playBest(OpeningsCabinet x, int due) {
        int number = x.moveCount();
        for (int move = 0; move < number; move++) {
            x.play(move);
            if (x.material(true) > 0 && x.endingValue() == due) {
                return true;
            }
            x.takeBack();
        }
        return false;
    }

    private static void refused() {
        OpeningsCabinet x = new OpeningsCabinet();
        Check.refuses("64 squares", STATE, () -> x.solve(2));
        Check.refuses("64 squares, kind 1", ARGUMENT, () -> x.solve(1));
        Check.refuses("longest of 64 squares", STATE, () -> x.longest(2));
        Check.refuses("value on 64 squares", STATE, x::endingValue);
        x.newBoard(5, 6);
        Check.refuses("30 squares", STATE, () -> x.solve(2));
        x.newBoard(4, 7);
        Check.refuses("28 squares", STATE, () -> x.solve(3));
        x.newBoard(5, 5);
        for (int kind : new int[] {-1, 0, 1, 6, 7, 8, Integer.MIN_VALUE, Integer.MAX_VALUE}) {
            Check.refuses("solve " + kind, ARGUMENT, () -> x.solve(kind));
            Check.refuses("longest " + kind, ARGUMENT, () -> x.longest(kind));
        }
        Check.paper(x, "k4/5/2K2/5/Q4 b - -");
        Check.refuses("not solved", STATE, x::endingValue);
        x.solve(3);
        Check.refuses("another kind is solved", STATE, x::endingValue);
        Check.refuses("another kind is solved", STATE, () -> x.longest(2));
        x.solve(2);
        Check.same("now it is", x.endingValue() >= 0, true);
        String[] others = {
            "k4/5/2K2/5/5 b - -", "k4/5/2K2/5/1Q1q1 b - -", "k4/5/2K2/1r3/5 b - -", "k4/5/2K2/1P3/5 b - -",
            "k4/5/2K2/1p3/5 b - -", "k4/5/2K2/q4/5 b - -", "k4/5/2K2/1QQ2/5 b - -", "k4/5/2K2/QR3/5 b - -",
        };
        for (String paper : others) {
            Check.paper(x, paper);
            Check.refuses("no ending: " + paper, STATE, x::endingValue);
        }
        Check.paper(x, "k4/5/2K2/5/Q4 b - -");
        x.setSide(true, 0);
        Check.refuses("not proper", STATE, x::endingValue);
        x.setSide(false, 1);
        Check.refuses("rights", STATE, x::endingValue);
        x.setSide(false, 0);
        Check.same("proper again", x.endingValue() >= 0, true);
        x.put(20, 0);
        Check.refuses("no black king", STATE, x::endingValue);
        x.put(19, 1);
        Check.refuses("two white kings", STATE, x::endingValue);
        x.newBoard(5, 5);
        Check.refuses("a new board", STATE, () -> x.longest(2));
    }
}
