/** Promise 29, and with it the rules of all moves: counts that are known for positions of chess. */
public final class CountsTest {
    public static void main(String[] args) {
        counts("rnbqkbnr/pppppppp/8/8/8/8/PPPPPPPP/RNBQKBNR w KQkq -", 20, 400, 8902);
        counts("r3k2r/p1ppqpb1/bn2pnp1/3PN3/1p2P3/2N2Q1p/PPPBBPPP/R3K2R w KQkq -", 48, 2039, 97862);
        counts("8/2p5/3p4/KP5r/1R3p1k/8/4P1P1/8 w - -", 14, 191, 2812);
        counts("r3k2r/Pppp1ppp/1b3nbN/nP6/BBP1P3/q4N2/Pp1P2PP/R2Q1RK1 w kq -", 6, 264, 9467);
        counts("r2q1rk1/pP1p2pp/Q4n2/bbp1p3/Np6/1B3NBn/pPPP1PPP/R3K2R b KQ -", 6, 264, 9467);
        counts("rnbq1k1r/pp1Pbppp/2p5/8/2B5/8/PPP1NnPP/RNBQK2R w KQ -", 44, 1486, 62379);
        counts("r4rk1/1pp1qppp/p1np1n2/2b1p1B1/2B1P1b1/P1NP1N2/1PP1QPPP/R4RK1 w - -", 46, 2079, 89890);
        counts("n1n5/PPPk4/8/8/8/8/4Kppp/5N1N b - -", 24, 496, 9483);
        OpeningsCabinet x = new OpeningsCabinet();
        Check.refuses("depth 0", IllegalArgumentException.class, () -> x.countMoves(0, true));
        Check.refuses("depth 4", IllegalArgumentException.class, () -> x.countMoves(4, false));
        Check.refuses("the least depth", IllegalArgumentException.class,
                () -> x.countMoves(Integer.MIN_VALUE, false));
        x.put(4, 0);
        Check.refuses("no king", IllegalStateException.class, () -> x.countMoves(3, false));
        Check.refuses("no king, depth 4", IllegalArgumentException.class, () -> x.countMoves(4, false));
        Check.end("CountsTest");
    }

    private static void counts(String paper, int one, int two, int three) {
        OpeningsCabinet x = Check.at(paper);
        Check.same("moves of " + paper, x.moveCount(), one);
        Check.same("one half move of " + paper, x.countMoves(1, false), one);
        Check.same("two half moves of " + paper, x.countMoves(2, false), two);
        Check.same("three half moves of " + paper, x.countMoves(3, false), three);
        Check.same("three joined half moves of " + paper, x.countMoves(3, true), three);
        Check.same("the position behind the counts of " + paper, Check.paper(x), paper);
    }
}
