import java.util.function.Consumer;

/** "An object is used for at most 512 calls after it has been made": the last of these answers as the first one did. */
public final class BoundsCallsTest {
    private static final int MOST_CALLS = 512;

    public static void main(String[] args) {
        playedAndTakenBack();
        addedAndMerged();
        typedAndRead();
        answered();
        newBoards();
        dearCalls();
        Check.end("BoundsCallsTest");
    }

    private static void times(int number, Consumer<Integer> call) {
        for (int i = 0; i < number; i++) {
            call.accept(i);
        }
    }

    private static void playedAndTakenBack() {
        OpeningsCabinet x = new OpeningsCabinet();
        times(MOST_CALLS / 4, i -> {
            Check.same("play", x.play(0), OpeningsCabinet.GOING);
            Check.same("play", x.play(19), OpeningsCabinet.GOING);
            Check.same("takeBack", x.takeBack(), 1);
            Check.same("takeBack", x.takeBack(), 0);
        });
    }

    private static void addedAndMerged() {
        OpeningsCabinet x = new OpeningsCabinet();
        x.addGame(0, 0, 1900, 1);
        times((MOST_CALLS - 1) / 2, i -> {
            Check.same("addGame", x.addGame(1, 0, 1900, 1), 0);
            Check.same("merge", x.merge(), 0);
        });
        Check.same("gameCount", x.gameCount(0) * 10 + x.gameCount(1), 10);
    }

    private static void typedAndRead() {
        OpeningsCabinet x = new OpeningsCabinet();
        times(MOST_CALLS / 4, i -> {
            Check.same("type", x.type(Check.packed("e4 (d4)*")), 8);
            Check.same("readMoves", x.readMoves(), 1);
            Check.same("variationMoves", x.variationMoves(), 1);
            Check.same("takeBack", x.takeBack(), 0);
        });
    }

    /** The due numbers grow with the count: one game alone is asked for always, with the box 4 at last. */
    private static void answered() {
        OpeningsCabinet x = new OpeningsCabinet();
        x.addGame(0, 0, 1900, 1);
        times(MOST_CALLS - 2, i -> Check.same("answer", x.answer(true), Math.min(i + 1, 4)));
        Check.same("asked", x.asked(), 0);
    }

    private static void newBoards() {
        OpeningsCabinet x = new OpeningsCabinet();
        times(MOST_CALLS, i -> {
            int files = 4 + i % 5;
            int ranks = 4 + i / 5 % 5;
            Check.same("newBoard", x.newBoard(files, ranks), files * ranks);
        });
    }

    private static void dearCalls() {
        OpeningsCabinet x = new OpeningsCabinet();
        times(MOST_CALLS / 8, i -> {
            Check.same("newBoard", x.newBoard(5, 5), 25);
            Check.same("solve", x.solve(3), 15324);
            x.put(0, 1);
            x.put(24, 7);
            Check.same("countMoves", x.countMoves(3, true), 53);
            Check.same("forcesMate", x.forcesMate(), OpeningsCabinet.NONE);
            Check.same("addGame", x.addGame(0, 0, 1900, 1), 0);
            Check.same("errors", x.errors(), 0);
        });
    }
}
