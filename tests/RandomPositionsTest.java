import java.util.List;

/** Sections 2 to 4 and 10: drawn positions full of pins and checks, of pawns, and near to a mate. */
public final class RandomPositionsTest extends Duo {
    private final int kind;

    private RandomPositionsTest(long seed) {
        super(seed);
        kind = (int) seed % 3;
    }

    public static void main(String[] args) {
        run("RandomPositionsTest", args.length > 0 ? Integer.parseInt(args[0]) : 180, RandomPositionsTest::new);
    }

    @Override
    void step() {
        Oracle.Place p = drawn();
        read(p);
        call("checkers");
        if (kind == 0) {
            askPins();
        } else if (kind == 1) {
            playPawns();
        } else {
            askMates();
        }
        if (chance(30) && plain.isProper()) {
            spell();
        }
    }

    /** The letters of all moves, and each of them read. */
    private void spell() {
        Oracle.Place p = plain.now();
        List<Oracle.Step> all = moves();
        for (int i = 0; i < all.size(); i++) {
            if (chance(50)) {
                call("writeMove", i);
            } else {
                call("clearText");
                type(Oracle.plain(p, all.get(i)) + (chance(30) ? "+" : chance(30) ? "#" : ""));
                call("fault");
            }
        }
    }

    private void askPins() {
        Oracle.Place p = plain.now();
        for (int s = 0; s < p.on.length; s++) {
            if (p.on[s] != 0) {
                call("isPinned", s);
            } else if (chance(20)) {
                call("isAttacked", s, chance(50));
            }
        }
        call("moveCount");
        call("countMoves", 1 + upTo(1), chance(50));
        call("state");
    }

    private void playPawns() {
        call("moveCount");
        for (int i = 0; i < 8; i++) {
            List<Oracle.Step> all = moves();
            Oracle.Place p = plain.now();
            int best = all.isEmpty() ? 0 : upTo(all.size() - 1);
            int start = best;
            for (int j = 0; j < all.size() && chance(90); j++) {
                Oracle.Step m = all.get((start + j) % all.size());
                boolean isPassing = Oracle.takes(p, m) && p.on[m.to] == 0;
                if (isPassing || Oracle.first(p, m) && chance(30)) {
                    best = (start + j) % all.size();
                    if (isPassing) {
                        break;
                    }
                }
            }
            call("writeMove", best);
            call("play", best);
            call("passingSquare");
            call("writePaper");
            call("moveCount");
        }
        call("errors");
    }

    private void askMates() {
        call("forcesMate");
        call("keyCount");
        String key = call("firstKey");
        call("state");
        if (!isOver() && Character.isDigit(key.charAt(0))) {
            call("writeMove", Integer.parseInt(key));
            call("play", Integer.parseInt(key));
            if (!moves().isEmpty()) {
                call("play", upTo(moves().size() - 1));
                call("forcesMate");
                call("keyCount");
                call("firstKey");
            }
        }
    }

    private Oracle.Place drawn() {
        for (int tries = 0; tries < 3000; tries++) {
            int files = chance(50) ? 8 : 4 + upTo(4);
            int ranks = chance(50) ? 8 : 4 + upTo(4);
            int[] on = new int[files * ranks];
            boolean white = chance(50);
            if (kind == 0) {
                scatter(on, 3 + upTo(5), white ? 8 : 2, 2);
                scatter(on, 3 + upTo(6), white ? 2 : 8, 4);
                scatter(on, upTo(3), 6, 0);
            } else if (kind == 1) {
                scatter(on, 4 + upTo(4), 6, 0);
                scatter(on, 4 + upTo(4), 12, 0);
                for (int f = 0; f < files; f++) {
                    on[files + f] = chance(40) ? 6 : on[files + f];
                    on[files * (ranks - 2) + f] = chance(40) ? 12 : on[files * (ranks - 2) + f];
                }
                scatter(on, upTo(3), 3, 1);
                scatter(on, upTo(3), 9, 1);
            } else {
                scatter(on, 2 + upTo(2), white ? 2 : 8, 3);
                scatter(on, upTo(2), white ? 12 : 6, 0);
            }
            for (int side = 0; side < 2; side++) {
                boolean isEdge = kind == 2 && chance(80);
                int square = isEdge ? upTo(files - 1) + (chance(50) ? 0 : on.length - files) : upTo(on.length - 1);
                on[square] = side == 0 ? 1 : 7;
            }
            Oracle.Place p = new Oracle.Place(files, ranks, on, white, 0, -1);
            if (p.proper()) {
                return p;
            }
        }
        return plain.now();
    }

    private void scatter(int[] on, int number, int least, int more) {
        for (int i = 0; i < number; i++) {
            on[upTo(on.length - 1)] = least + upTo(more);
        }
    }
}
