import java.util.List;

/** All promises: long runs of calls of the cabinet and of the oracle, drawn with fixed seeds, must answer the same. */
public final class RandomTest extends Duo {
    private static final String[] QUESTIONS = {
        "isWhiteToMove", "rights", "passingSquare", "isProper", "checkers", "writePaper", "moveCount", "madeCount",
        "state", "repetitions", "holds", "asked", "variationMoves", "errors", "endingValue",
    };

    private final boolean isDeep;

    private RandomTest(long seed) {
        super(seed);
        isDeep = seed % 10 == 0;
        if (chance(70)) {
            setUp();
        }
    }

    public static void main(String[] args) {
        run("RandomTest", args.length > 0 ? Integer.parseInt(args[0]) : 300, RandomTest::new);
    }

    @Override
    void step() {
        if (chance(20) && (!plain.isProper() || moves().isEmpty() && plain.madeCount() == 0)) {
            setUp();
        }
        int kind = random.nextInt(100);
        if (kind < 34) {
            move();
        } else if (kind < 38) {
            goBack();
        } else if (kind < 50) {
            call(QUESTIONS[random.nextInt(QUESTIONS.length)]);
        } else if (kind < 58) {
            keep();
        } else if (kind < 66) {
            askShelf();
        } else if (kind < 74) {
            readText();
        } else if (kind < 78) {
            look();
        } else if (kind < 81) {
            pattern();
        } else if (kind < 85) {
            searchMates();
        } else if (kind < 88) {
            drill();
        } else if (kind < 90) {
            ending();
        } else if (kind < 92) {
            paper();
        } else if (kind < 93) {
            call("startHere");
        } else if (kind < 95) {
            followMain();
        } else if (kind < 96 && chance(50)) {
            setUp();
        } else if (kind < 97 && chance(30)) {
            call("merge");
        } else {
            anything();
        }
    }

    private void move() {
        int repeat = chance(20) ? upTo(12) : 1;
        for (int i = 0; i < repeat; i++) {
            List<Oracle.Step> all = moves();
            int move = chance(2) ? upTo(60) - 5 : random.nextInt(Math.max(1, all.size()));
            // Every second time a move that is told by a special rule, if there is one.
            for (int j = 0; j < all.size() && chance(50); j++) {
                Oracle.Step m = all.get(j);
                Oracle.Place p = plain.now();
                if (Oracle.castles(p, m) || Oracle.first(p, m) && chance(40) || m.becomes != 0 && chance(40)
                        || Oracle.takes(p, m) && p.on[m.to] == 0) {
                    move = j;
                    break;
                }
            }
            call("writeMove", move);
            call("play", move);
        }
    }

    private void goBack() {
        int repeat = chance(30) ? upTo(20) : 1;
        for (int i = 0; i < repeat; i++) {
            call("takeBack");
        }
    }

    private void keep() {
        int shelf = chance(3) ? upTo(4) - 2 : upTo(1);
        int copies = chance(5) ? upTo(45) : 1;
        for (int i = 0; i < copies; i++) {
            call("addGame", shelf, chance(3) ? upTo(6) - 2 : upTo(2), chance(5) ? 1795 + upTo(320) : 1990 + upTo(10),
                    chance(5) ? upTo(4000) - 100 : 100 * upTo(30));
        }
    }

    private void askShelf() {
        int shelf = chance(3) ? upTo(4) - 2 : upTo(1);
        String[] plainOnes = {"gameCount", "positionCount", "count", "patternCount", "meanLength", "shareWon",
            "continuations"};
        switch (random.nextInt(7)) {
            case 0:
                call("countWith", shelf, upTo(4) - 1);
                break;
            case 1:
                call("countYears", shelf, 1988 + upTo(10), 1990 + upTo(12));
                break;
            case 2:
                call("meanStrength", shelf, chance(50));
                break;
            case 3:
                call(chance(50) ? "gameLength" : "firstNew", shelf, upTo(12) - 1);
                break;
            case 4:
                call(chance(50) ? "continuationAt" : "gamesOf", shelf, upTo(4) - 1);
                break;
            default:
                call(plainOnes[random.nextInt(plainOnes.length)], shelf);
        }
    }

    private void look() {
        int size = plain.now().on.length;
        int square = chance(5) ? upTo(80) - 8 : random.nextInt(size);
        switch (random.nextInt(7)) {
            case 0:
                call("pieceAt", square);
                break;
            case 1:
                call("isAttacked", square, chance(50));
                break;
            case 2:
                call("isPinned", square);
                break;
            case 3:
                call("material", chance(50));
                break;
            case 4:
                call("isOpenFile", upTo(10) - 1);
                break;
            case 5:
                call("outputByte", upTo(70) - 1);
                break;
            default:
                call(new String[] {"moveFrom", "moveTo", "moveBecomes"}[random.nextInt(3)], upTo(40) - 1);
        }
    }

    private void pattern() {
        int size = plain.now().on.length;
        int square = chance(5) ? upTo(80) - 8 : random.nextInt(size);
        int there = square >= 0 && square < size ? plain.now().on[square] : 0;
        int asked = chance(40) ? there : chance(50) ? there == 0 ? 15 : there < 7 ? 13 : 14 : upTo(18) - 1;
        call("ask", square, asked);
        call("holds");
        call("patternCount", upTo(1));
        if (chance(50)) {
            call("ask", square, 15);
        }
    }

    private void searchMates() {
        int moves = moves().size();
        if (isDeep || moves < 15) {
            call("forcesMate");
            call("keyCount");
            call("firstKey");
        }
        if (moves < 30) {
            call("countMoves", chance(5) ? upTo(5) - 1 : 1 + upTo(isDeep ? 2 : 1), chance(50));
        }
    }

    private void drill() {
        int repeat = chance(40) ? upTo(20) : 1;
        for (int i = 0; i < repeat; i++) {
            call("asked");
            call("answer", chance(70));
        }
    }

    private void ending() {
        int size = plain.now().on.length;
        int kind = chance(5) ? upTo(8) - 1 : 2 + upTo(3);
        if (size > 25 || isDeep || size <= 16) {
            call("solve", kind);
            call("longest", kind);
            call("endingValue");
        }
    }

    /** Plays from the start of a game of a shelf, if it can. */
    private void followMain() {
        while (plain.madeCount() > 0 && chance(80)) {
            call("takeBack");
        }
        call("playMain", upTo(1), chance(5) ? upTo(100) - 10 : 1 + upTo(79));
    }

    private void paper() {
        String paper = Oracle.paper(plain.now());
        if (chance(40)) {
            paper = spoiled(paper, " /wbKQkq-abcdefgh12345678PpNnRrBb");
        }
        while (plain.madeCount() > 0 && chance(95)) {
            call("takeBack");
        }
        call("clearText");
        type(paper);
        call("readPaper");
        call("writePaper");
        call("clearText");
    }

    private String spoiled(String text, String signs) {
        StringBuilder s = new StringBuilder(text);
        int place = upTo(s.length());
        int kind = random.nextInt(4);
        char sign = signs.charAt(random.nextInt(signs.length()));
        if (kind == 0 || s.length() == 0) {
            s.insert(place, sign);
        } else if (kind == 1) {
            s.setCharAt(Math.min(place, s.length() - 1), sign);
        } else if (kind == 2) {
            s.deleteCharAt(Math.min(place, s.length() - 1));
        } else {
            s.setLength(place);
        }
        return s.toString();
    }

    private void readText() {
        StringBuilder line = new StringBuilder();
        if (plain.isProper()) {
            line(line, plain.now(), 0, 1 + upTo(chance(10) ? 60 : 8));
        }
        if (chance(40)) {
            line.append(new String[] {" 1-0", " 0-1 ", "   1/2-1/2", " *", "*", " 1-1"}[random.nextInt(6)]);
        }
        String text = line.toString();
        for (int i = 0; i < 3 && chance(35); i++) {
            text = spoiled(text, " (){}+#.=x-O0123abcdefghKQRBN*/");
        }
        if (chance(95)) {
            call("clearText");
        }
        type(text);
        call("fault");
        if (chance(85)) {
            call("readMoves");
            call("variationMoves");
            call("madeCount");
        }
    }

    private void line(StringBuilder line, Oracle.Place start, int depth, int length) {
        Oracle.Place at = start;
        for (int i = 0; i < length && line.length() < 420; i++) {
            List<Oracle.Step> all = Oracle.moves(at);
            if (all.isEmpty()) {
                break;
            }
            Oracle.Step m = all.get(random.nextInt(all.size()));
            line.append(chance(20) && line.length() == 0 ? "" : chance(10) ? "  " : " ");
            if (chance(25)) {
                line.append(1 + upTo(120)).append(chance(50) ? "." : chance(90) ? "..." : "..").append(' ');
            }
            line.append(chance(70) ? Oracle.full(at, m) : Oracle.plain(at, m));
            line.append(chance(3) ? "+" : "");
            Oracle.Place before = at;
            at = Oracle.behind(at, m);
            while (chance(12)) {
                if (chance(50)) {
                    line.append(chance(50) ? " " : "").append(chance(50) ? "{a ( note}" : "{}");
                } else if (depth < 4 || chance(10)) {
                    line.append(chance(50) ? " (" : "(");
                    line(line, before, depth + 1, 1 + upTo(4));
                    line.append(chance(50) ? ")" : " ) ");
                }
            }
        }
    }

    private void setUp() {
        if (chance(75)) {
            int[] sizes = {4, 5, 6, 7, 8};
            boolean isSmall = isDeep && chance(60);
            int files = isSmall ? 4 + upTo(1) : chance(45) ? 8 : sizes[random.nextInt(5)];
            int ranks = isSmall ? 4 + upTo(1) : chance(45) ? 8 : sizes[random.nextInt(5)];
            call("newBoard", chance(2) ? upTo(12) : files, chance(2) ? upTo(12) : ranks);
        }
        while (plain.madeCount() > 0 && chance(99)) {
            call("startHere");
        }
        Oracle.Place p = placed();
        if (chance(60)) {
            call("clearText");
            type(Oracle.paper(p));
            call("readPaper");
            return;
        }
        for (int s = 0; s < p.on.length; s++) {
            if (p.on[s] != plain.now().on[s]) {
                call("put", s, p.on[s]);
            }
        }
        call("setSide", p.white, p.rights);
    }

    /** A drawn position, mostly a proper one. */
    private Oracle.Place placed() {
        Oracle.Place now = plain.now();
        Oracle.Place p = now;
        for (int tries = 0; tries < 200; tries++) {
            int[] on = new int[now.on.length];
            int pieces = isDeep ? upTo(4) : upTo(Math.min(24, on.length / 2));
            boolean isOfPawns = chance(40);
            for (int i = 0; i < pieces; i++) {
                int kind = isOfPawns && chance(70) ? 6 : 2 + upTo(4);
                on[random.nextInt(on.length)] = kind + (chance(50) ? 6 : 0);
            }
            int rights = 0;
            boolean isHome = now.files == 8 && chance(50);
            int last = on.length - 8;
            on[isHome ? 4 : random.nextInt(on.length)] = 1;
            on[isHome ? last + 4 : random.nextInt(on.length)] = 7;
            for (int right = 0; isHome && right < 4; right++) {
                if (chance(60)) {
                    on[(right < 2 ? 0 : last) + (right % 2 == 0 ? 7 : 0)] = right < 2 ? 3 : 9;
                    rights |= chance(80) ? 1 << right : 0;
                }
            }
            int passing = chance(15) ? random.nextInt(on.length) : -1;
            p = new Oracle.Place(now.files, now.ranks, on, chance(50), rights, passing);
            if (p.proper() && Oracle.read(Oracle.paper(p), p.files, p.ranks) != null || chance(2)) {
                return p;
            }
        }
        return p;
    }
}
