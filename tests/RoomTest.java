import java.lang.management.ManagementFactory;
import java.util.function.Consumer;

/** The room of one run of 512 calls, by the bytes that are allocated for it. */
public final class RoomTest {
    private static final com.sun.management.ThreadMXBean MEMORY =
            (com.sun.management.ThreadMXBean) ManagementFactory.getThreadMXBean();
    /** A third of the room of 7.3 million elements, each of them taken for 8 bytes. */
    private static final long MOST_BYTES = 7_300_000L * 8 / 3;

    public static void main(String[] args) {
        room("a new object", x -> { }, x -> { }, 1);
        room("games", RoomTest::longGame, x -> {
            x.addGame(1, 0, 1900, 1);
            x.merge();
        }, 250);
        room("games that are alike", RoomTest::longGame, x -> {
            if (x.gameCount(0) == 40) {
                x.newBoard(8, 8);
                longGame(x);
            }
            x.addGame(0, 0, 1900, 1);
        }, 250);
        room("endings", x -> { }, x -> {
            x.newBoard(5, 5);
            for (int kind = 2; kind <= 5; kind++) {
                x.solve(kind);
            }
        }, 100);
        room("texts", x -> { }, x -> {
            Check.type(x, "e4 (d4 d5 (Nf6) {note}) 1... e5 (c5) {another note}");
            x.fault();
            x.readMoves();
            x.takeBack();
            x.takeBack();
        }, 50);
        room("papers", x -> { }, x -> {
            Check.board(x, "r3k2r/p1ppqpb1/bn2pnp1/3PN3/1p2P3/2N2Q1p/PPPBBPPP/R3K2R w KQkq -");
            x.writePaper();
        }, 40);
        OpeningsCabinet rich = Check.at("r3k2r/p1ppqpb1/bn2pnp1/3PN3/1p2P3/2N2Q1p/PPPBBPPP/R3K2R w KQkq -");
        used("searches", () -> {
            for (int i = 0; i < 10; i++) {
                rich.countMoves(3, true);
                rich.forcesMate();
                rich.keyCount();
                rich.errors();
                rich.continuations(0);
                rich.writeMove(i);
                rich.state();
            }
        }, MOST_BYTES / 50);
        Check.end("RoomTest");
    }

    private static void longGame(OpeningsCabinet x) {
        x.newBoard(8, 8);
        Check.paper(x, "rnbqkbnr/pppppppp/8/8/8/8/PPPPPPPP/RNBQKBNR w KQkq -");
        for (int i = 0; i < 80; i++) {
            x.play(i % 2 * 3);
        }
    }

    private static void room(String what, Consumer<OpeningsCabinet> ahead, Consumer<OpeningsCabinet> calls, int times) {
        used(what, () -> {
            OpeningsCabinet x = new OpeningsCabinet();
            ahead.accept(x);
            for (int i = 0; i < times; i++) {
                calls.accept(x);
            }
        }, MOST_BYTES);
    }

    /** The first time is not measured, as the machine then loads its classes. */
    private static void used(String what, Runnable run, long most) {
        run.run();
        long before = MEMORY.getThreadAllocatedBytes(Thread.currentThread().getId());
        run.run();
        long bytes = MEMORY.getThreadAllocatedBytes(Thread.currentThread().getId()) - before;
        Check.same(what + " took " + bytes + " bytes, too many", bytes <= most, true);
        System.out.println(what + ": " + bytes + " bytes");
    }
}
