/** Promises 49 to 51: patterns. */
public final class PatternsTest {
    public static void main(String[] args) {
        asking();
        holding();
        counting();
        Check.end("PatternsTest");
    }

    private static void asking() {
        OpeningsCabinet x = new OpeningsCabinet();
        for (int square = 0; square < 64; square++) {
            Check.same("asked at first", x.ask(square, 15), OpeningsCabinet.ANY);
        }
        Check.same("what is asked before", x.ask(63, 0), 15);
        for (int what = 1; what <= 15; what++) {
            Check.same("what is asked before", x.ask(63, what), what - 1);
        }
        Class<IndexOutOfBoundsException> index = IndexOutOfBoundsException.class;
        Class<IllegalArgumentException> argument = IllegalArgumentException.class;
        Check.refuses("square -1", index, () -> x.ask(-1, 0));
        Check.refuses("square 64", index, () -> x.ask(64, 0));
        Check.refuses("square 64, what 16", index, () -> x.ask(64, 16));
        Check.refuses("what -1", argument, () -> x.ask(0, -1));
        Check.refuses("what 16", argument, () -> x.ask(0, 16));
        Check.same("a refused one asks nothing", x.ask(0, 3), 15);
        x.newBoard(5, 5);
        Check.same("on a new board", x.ask(0, 3), 15);
        Check.refuses("square 25 of 25", index, () -> x.ask(25, 0));
        Check.same("square 24 of 25", x.ask(24, 0), 15);
    }

    private static void holding() {
        OpeningsCabinet x = Check.at("4k3/8/8/3p4/4P3/8/8/4K3 w - -");
        Check.same("nothing is asked", x.holds(), true);
        for (int what = 0; what <= 15; what++) {
            x.ask(28, what);
            Check.same(what + " on a white pawn", x.holds(), what == 6 || what == 13 || what == 15);
        }
        x.ask(28, 15);
        for (int what = 0; what <= 15; what++) {
            x.ask(35, what);
            Check.same(what + " on a black pawn", x.holds(), what == 12 || what == 14 || what == 15);
        }
        x.ask(35, 15);
        for (int what = 0; what <= 15; what++) {
            x.ask(0, what);
            Check.same(what + " on an empty square", x.holds(), what == 0 || what == 15);
        }
        x.ask(0, 15);
        x.ask(4, 1);
        x.ask(60, 7);
        x.ask(28, 6);
        x.ask(63, 0);
        Check.same("several squares", x.holds(), true);
        Check.moves(x, "exd5");
        Check.same("another position", x.holds(), false);
        OpeningsCabinet y = new OpeningsCabinet();
        y.newBoard(4, 4);
        y.ask(15, 0);
        Check.same("an improper position", y.holds(), true);
        y.put(15, 9);
        Check.same("something stands there", y.holds(), false);
    }

    private static void counting() {
        OpeningsCabinet x = new OpeningsCabinet();
        Check.same("no games", x.patternCount(0), 0);
        Check.moves(x, "e4 e5 Nf3 Nc6");
        x.addGame(0, 0, 1900, 1);
        x.takeBack();
        Check.moves(x, "Nf6 Nc3");
        x.addGame(0, 0, 1900, 1);
        x.addGame(0, 0, 1900, 1);
        Check.same("all positions", x.patternCount(0), 7);
        x.ask(28, 6);
        Check.same("e4", x.patternCount(0), 6);
        x.ask(21, 5);
        Check.same("e4 and Nf3", x.patternCount(0), 4);
        x.ask(18, 5);
        Check.same("and Nc3", x.patternCount(0), 1);
        x.ask(18, 0);
        Check.same("and not Nc3", x.patternCount(0), 3);
        x.ask(45, 14);
        Check.same("and something on f6", x.patternCount(0), 1);
        x.ask(0, 14);
        Check.same("never", x.patternCount(0), 0);
        Check.same("the other shelf", x.patternCount(1), 0);
        Check.refuses("shelf 2", IndexOutOfBoundsException.class, () -> x.patternCount(2));
        Check.refuses("shelf -1", IndexOutOfBoundsException.class, () -> x.patternCount(-1));
        OpeningsCabinet y = new OpeningsCabinet();
        Check.moves(y, "Nf3 Nf6 Ng1 Ng8 Nf3");
        y.addGame(1, 0, 1900, 1);
        y.ask(21, 5);
        Check.same("a position that comes again is counted once", y.patternCount(1), 2);
        y.startHere();
        y.put(4, 0);
        Check.same("whatever the present position is", y.patternCount(1), 2);
    }
}
