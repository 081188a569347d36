/** Promises 52 to 54: forced mates. */
public final class MatesTest {
    public static void main(String[] args) {
        forces("6k1/5ppp/8/8/8/8/8/K2R4 w - -", 1, 1, "Rd8#");
        forces("k7/8/1K6/8/8/8/8/2Q4R w - -", 1, 2, "Qc8#");
        forces("k7/2Q5/1K6/8/8/8/8/8 w - -", 1, 4, "Qa7#");
        forces("1k1r4/8/8/8/8/8/5PPP/6K1 b - -", 1, 1, "Rd1#");
        forces("7k/8/8/8/8/8/R7/1R4K1 w - -", 3, 2, "Rb7");
        // Kc7 and Qb6 would leave Black without a move, but not in check.
        forces("k7/8/2K5/8/8/8/8/6Q1 w - -", 3, 3, "Qb1");
        forces("6k1/8/8/8/8/r7/1r6/6K1 b - -", 1, 1, "Ra1#");
        forces("3k4/r7/1r6/8/8/8/8/7K b - -", 3, 4, "Rb2");
        forces("rnbqkbnr/pppppppp/8/8/8/8/PPPPPPPP/RNBQKBNR w KQkq -", -1, 0, "");
        forces("4k3/8/8/8/8/8/8/4K2R w K -", -1, 0, "");
        forces("4k3/8/8/8/8/8/8/4K3 w - -", -1, 0, "");
        forces("R5k1/5ppp/8/8/8/8/8/4K3 b - -", -1, 0, "");
        forces("k7/2Q5/8/8/8/8/8/4K3 b - -", -1, 0, "");
        forces("k7/P7/1K6/8/8/8/8/7R w - -", 1, 1, "Rh8#");
        forces("7k/5K2/8/6P1/8/8/8/8 w - -", -1, 0, "");
        OpeningsCabinet x = new OpeningsCabinet();
        Check.moves(x, "f3 e5 g4");
        Check.same("fool's mate", x.forcesMate(), 1);
        Check.same("its key", Check.letters(x, x.firstKey()), "Qh4#");
        x.play(x.firstKey());
        Check.same("it is mate already", x.forcesMate(), OpeningsCabinet.NONE);
        Check.refuses("no key", java.util.NoSuchElementException.class, x::firstKey);
        Check.same("the looking changes nothing", x.madeCount(), 4);
        OpeningsCabinet y = new OpeningsCabinet();
        y.put(4, 0);
        Check.refuses("forcesMate, not proper", IllegalStateException.class, y::forcesMate);
        Check.refuses("keyCount, not proper", IllegalStateException.class, y::keyCount);
        Check.refuses("firstKey, not proper", IllegalStateException.class, y::firstKey);
        Check.end("MatesTest");
    }

    private static void forces(String paper, int length, int keys, String first) {
        OpeningsCabinet x = Check.at(paper);
        Check.same("half moves in " + paper, x.forcesMate(), length);
        // None of the calls needs another one ahead of it.
        OpeningsCabinet y = Check.at(paper);
        Check.same("keys in " + paper, y.keyCount(), keys);
        OpeningsCabinet z = Check.at(paper);
        if (keys == 0) {
            Check.refuses("first key in " + paper, java.util.NoSuchElementException.class, z::firstKey);
        } else {
            Check.same("first key in " + paper, Check.letters(z, z.firstKey()), first);
        }
        Check.same("the position behind it", Check.paper(x), paper);
    }
}
