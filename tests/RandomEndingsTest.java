import java.util.List;

/** Section 11: the endings of all kinds on small boards, at drawn positions and along drawn games. */
public final class RandomEndingsTest extends Duo {
    private static final int[][] BOARDS = {{4, 4}, {5, 4}, {4, 5}, {5, 5}, {4, 6}, {6, 4}};

    private RandomEndingsTest(long seed) {
        super(seed);
        int[] board = BOARDS[(int) seed % 3];
        call("newBoard", board[0], board[1]);
    }

    /** For the greater boards the oracle takes some seconds, so they are not for each run of the tests. */
    private RandomEndingsTest(long seed, boolean isGreat) {
        super(seed);
        int[] board = BOARDS[isGreat ? (int) seed % BOARDS.length : 3];
        call("newBoard", board[0], board[1]);
    }

    public static void main(String[] args) {
        if (args.length > 0) {
            run("RandomEndingsTest", Integer.parseInt(args[0]), seed -> new RandomEndingsTest(seed, true));
            return;
        }
        run("RandomEndingsTest", 60, RandomEndingsTest::new);
    }

    @Override
    void step() {
        if (chance(10)) {
            int kind = chance(10) ? upTo(9) - 1 : 2 + upTo(3);
            call("longest", kind);
            call("solve", kind);
            call("longest", kind);
        }
        read(drawn());
        call("endingValue");
        int moves = upTo(6);
        for (int i = 0; i < moves; i++) {
            List<Oracle.Step> all = moves();
            if (!all.isEmpty()) {
                call("play", upTo(all.size() - 1));
                call("endingValue");
            }
        }
        if (chance(2)) {
            call("newBoard", plain.now().files, plain.now().ranks);
        }
    }

    /** A position with two kings and mostly one white piece. */
    private Oracle.Place drawn() {
        Oracle.Place now = plain.now();
        Oracle.Place p = now;
        for (int tries = 0; tries < 1000; tries++) {
            int[] on = new int[now.on.length];
            if (chance(10)) {
                on[random.nextInt(on.length)] = 2 + upTo(10);
            }
            on[random.nextInt(on.length)] = chance(95) ? 2 + upTo(3) : 6 + upTo(6);
            on[random.nextInt(on.length)] = 1;
            on[random.nextInt(on.length)] = 7;
            p = new Oracle.Place(now.files, now.ranks, on, chance(50), 0, -1);
            if (p.proper() && p.pieces() >= 3) {
                return p;
            }
        }
        return p;
    }
}
