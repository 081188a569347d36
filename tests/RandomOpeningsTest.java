import java.util.List;

/** Sections 5 and 8: drawn games that often meet, on both shelves, asked at every position on the way. */
public final class RandomOpeningsTest extends Duo {
    private RandomOpeningsTest(long seed) {
        super(seed);
        if (seed % 3 == 1) {
            read(Oracle.read("r3k2r/pppq1ppp/2n5/8/8/2N5/PPPQ1PPP/R3K2R w KQkq -", 8, 8));
        } else if (seed % 3 == 2) {
            read(Oracle.read("1kr1/p2p/4/P2P/1KR1 b - -", 4, 5));
        }
    }

    public static void main(String[] args) {
        run("RandomOpeningsTest", args.length > 0 ? Integer.parseInt(args[0]) : 240, RandomOpeningsTest::new);
    }

    @Override
    void step() {
        int length = chance(10) ? 30 : upTo(8);
        for (int i = 0; i < length; i++) {
            List<Oracle.Step> all = moves();
            if (!all.isEmpty()) {
                call("play", chance(80) ? upTo(Math.min(all.size() - 1, 2)) : upTo(all.size() - 1));
            }
        }
        if (chance(70)) {
            call("addGame", upTo(1), upTo(2), 1990 + upTo(4), 50 * upTo(9));
        }
        if (chance(10)) {
            call("merge");
        }
        if (chance(3)) {
            call("startHere");
        }
        int back = chance(40) ? plain.madeCount() : upTo(plain.madeCount());
        for (int i = 0; i < back; i++) {
            call("takeBack");
            if (chance(20)) {
                askHere(upTo(1));
            }
        }
        askHere(upTo(1));
        if (chance(40)) {
            call("playMain", upTo(1), 1 + upTo(chance(50) ? 4 : 79));
            call("state");
            call("repetitions");
        }
        if (chance(20)) {
            call("asked");
            call("answer", chance(60));
        }
    }

    private void askHere(int shelf) {
        String answer = call("continuations", shelf);
        int number = isOver() || answer.startsWith("I") ? 0 : Integer.parseInt(answer);
        for (int i = 0; i <= number; i++) {
            call("continuationAt", shelf, i);
            call("gamesOf", shelf, i);
        }
        switch (random.nextInt(6)) {
            case 0:
                call("count", shelf);
                call("shareWon", shelf);
                call("errors");
                break;
            case 1:
                call("countWith", shelf, upTo(2));
                break;
            case 2:
                call("countYears", shelf, 1990 + upTo(2), 1992 + upTo(2));
                break;
            case 3:
                call("meanStrength", shelf, true);
                call("meanStrength", shelf, false);
                break;
            case 4:
                call("positionCount", shelf);
                call("meanLength", shelf);
                break;
            default:
                call("firstNew", shelf, upTo(plain.gameCount(shelf)));
        }
    }
}
