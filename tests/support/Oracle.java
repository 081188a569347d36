import java.util.ArrayList;
import java.util.Arrays;
import java.util.HashMap;
import java.util.HashSet;
import java.util.LinkedHashMap;
import java.util.List;
import java.util.Map;
import java.util.NoSuchElementException;
import java.util.Set;
import java.util.TreeMap;

/**
 * The document once more, in the slowest and plainest way: every position is a row of squares that is copied for each
 * move, every question looks at everything. The tests compare the cabinet with it.
 */
public final class Oracle {
    private static final String LETTERS = ".KQRBNPkqrbnp";

    /** A position; never changed once it is made. */
    static final class Place {
        final int files;
        final int ranks;
        final int[] on;
        final boolean white;
        final int rights;
        final int passing;

        Place(int files, int ranks, int[] on, boolean white, int rights, int passing) {
            this.files = files;
            this.ranks = ranks;
            this.on = on;
            this.white = white;
            this.rights = rights;
            this.passing = passing;
        }

        String key() {
            StringBuilder s = new StringBuilder();
            for (int p : on) {
                s.append(LETTERS.charAt(p));
            }
            return s.append(white ? 'w' : 'b').append(rights).append('/').append(passing).toString();
        }

        int at(int file, int rank) {
            return file < 0 || rank < 0 || file >= files || rank >= ranks ? -1 : on[rank * files + file];
        }

        boolean is(int piece, boolean ofWhite) {
            return ofWhite ? piece >= 1 && piece <= 6 : piece >= 7;
        }

        /** Whether the piece on the square s attacks the square t. */
        boolean attacks(int s, int t) {
            int piece = on[s];
            if (piece == 0 || s == t) {
                return false;
            }
            boolean w = piece <= 6;
            int kind = w ? piece : piece - 6;
            int df = t % files - s % files;
            int dr = t / files - s / files;
            int af = Math.abs(df);
            int ar = Math.abs(dr);
            switch (kind) {
                case 1:
                    return Math.max(af, ar) == 1;
                case 5:
                    return af * ar == 2;
                case 6:
                    return af == 1 && dr == (w ? 1 : -1);
                default:
                    boolean straight = af == 0 || ar == 0;
                    boolean slanting = af == ar;
                    if (!(kind == 2 && (straight || slanting) || kind == 3 && straight || kind == 4 && slanting)) {
                        return false;
                    }
                    int f = s % files + Integer.signum(df);
                    int r = s / files + Integer.signum(dr);
                    while (r * files + f != t) {
                        if (at(f, r) != 0) {
                            return false;
                        }
                        f += Integer.signum(df);
                        r += Integer.signum(dr);
                    }
                    return true;
            }
        }

        List<Integer> attackers(int t, boolean byWhite) {
            List<Integer> found = new ArrayList<>();
            for (int s = 0; s < on.length; s++) {
                if (is(on[s], byWhite) && attacks(s, t)) {
                    found.add(s);
                }
            }
            return found;
        }

        int king(boolean ofWhite) {
            for (int s = 0; s < on.length; s++) {
                if (on[s] == (ofWhite ? 1 : 7)) {
                    return s;
                }
            }
            return -1;
        }

        boolean check() {
            return !attackers(king(white), !white).isEmpty();
        }

        boolean proper() {
            int whiteKings = 0;
            int blackKings = 0;
            for (int s = 0; s < on.length; s++) {
                whiteKings += on[s] == 1 ? 1 : 0;
                blackKings += on[s] == 7 ? 1 : 0;
                int rank = s / files;
                if ((rank == 0 || rank == ranks - 1) && (on[s] == 6 || on[s] == 12)) {
                    return false;
                }
            }
            if (whiteKings != 1 || blackKings != 1 || !attackers(king(!white), white).isEmpty()) {
                return false;
            }
            for (int right = 0; right < 4; right++) {
                if ((rights >> right & 1) == 0) {
                    continue;
                }
                int rank = right < 2 ? 0 : ranks - 1;
                int add = right < 2 ? 0 : 6;
                if (files != 8 || at(4, rank) != 1 + add || at(right % 2 == 0 ? 7 : 0, rank) != 3 + add) {
                    return false;
                }
            }
            return true;
        }

        boolean dead() {
            StringBuilder rest = new StringBuilder();
            for (int p : on) {
                if (p != 0 && p != 1 && p != 7) {
                    rest.append(Character.toUpperCase(LETTERS.charAt(p)));
                }
            }
            return rest.length() == 0 || rest.toString().equals("B") || rest.toString().equals("N");
        }

        int pieces() {
            int n = 0;
            for (int p : on) {
                n += p == 0 ? 0 : 1;
            }
            return n;
        }
    }

    /** A move: from, to, what a pawn becomes. */
    static final class Step implements Comparable<Step> {
        final int from;
        final int to;
        final int becomes;

        Step(int from, int to, int becomes) {
            this.from = from;
            this.to = to;
            this.becomes = becomes;
        }

        @Override
        public int compareTo(Step o) {
            return from != o.from ? from - o.from : to != o.to ? to - o.to : becomes - o.becomes;
        }

        @Override
        public boolean equals(Object o) {
            return o instanceof Step && compareTo((Step) o) == 0;
        }

        @Override
        public int hashCode() {
            return from * 1000 + to * 10 + becomes;
        }
    }

    static boolean castles(Place p, Step m) {
        return (p.on[m.from] == 1 || p.on[m.from] == 7) && Math.abs(m.to % p.files - m.from % p.files) == 2;
    }

    static boolean takes(Place p, Step m) {
        boolean pawn = p.on[m.from] == 6 || p.on[m.from] == 12;
        return p.on[m.to] != 0 || pawn && m.from % p.files != m.to % p.files;
    }

    static boolean first(Place p, Step m) {
        boolean pawn = p.on[m.from] == 6 || p.on[m.from] == 12;
        return pawn && Math.abs(m.from / p.files - m.to / p.files) == 2;
    }

    static Place behind(Place p, Step m) {
        int[] on = p.on.clone();
        int piece = on[m.from];
        int kind = piece > 6 ? piece - 6 : piece;
        on[m.from] = 0;
        if (kind == 6 && m.from % p.files != m.to % p.files && on[m.to] == 0) {
            on[m.from / p.files * p.files + m.to % p.files] = 0;
        }
        on[m.to] = m.becomes == 0 ? piece : m.becomes + (p.white ? 0 : 6);
        if (castles(p, m)) {
            int row = m.from / p.files * p.files;
            int corner = m.to % p.files == 6 ? row + 7 : row;
            int beside = m.to % p.files == 6 ? row + 5 : row + 3;
            on[beside] = on[corner];
            on[corner] = 0;
        }
        int rights = p.rights;
        if (kind == 1) {
            rights &= p.white ? 12 : 3;
        }
        for (int s : new int[] {m.from, m.to}) {
            if (p.files == 8) {
                int last = (p.ranks - 1) * 8;
                rights &= s == 7 ? ~1 : s == 0 ? ~2 : s == last + 7 ? ~4 : s == last ? ~8 : ~0;
            }
        }
        int passing = -1;
        if (first(p, m)) {
            int rank = m.to / p.files;
            int file = m.to % p.files;
            Place q = new Place(p.files, p.ranks, on, !p.white, rights, -1);
            int rival = p.white ? 12 : 6;
            if (q.at(file - 1, rank) == rival || q.at(file + 1, rank) == rival) {
                passing = (m.from + m.to) / 2;
            }
        }
        return new Place(p.files, p.ranks, on, !p.white, rights, passing);
    }

    private static final Map<String, List<Step>> MOVES = new HashMap<>();

    static List<Step> moves(Place p) {
        String key = p.files + "x" + p.ranks + p.key();
        List<Step> known = MOVES.get(key);
        if (known == null) {
            if (MOVES.size() > 300000) {
                MOVES.clear();
            }
            known = findMoves(p);
            MOVES.put(key, known);
        }
        return known;
    }

    private static List<Step> findMoves(Place p) {
        List<Step> all = new ArrayList<>();
        for (int s = 0; s < p.on.length; s++) {
            if (!p.is(p.on[s], p.white)) {
                continue;
            }
            int kind = p.white ? p.on[s] : p.on[s] - 6;
            for (int t = 0; t < p.on.length; t++) {
                if (kind == 6) {
                    if (pawnGoes(p, s, t)) {
                        boolean last = t / p.files == (p.white ? p.ranks - 1 : 0);
                        for (int b = 2; b <= 5; b++) {
                            if (last || b == 2) {
                                all.add(new Step(s, t, last ? b : 0));
                            }
                        }
                    }
                } else if (p.attacks(s, t) && !p.is(p.on[t], p.white)) {
                    all.add(new Step(s, t, 0));
                }
            }
            if (kind == 1) {
                castlings(p, s, all);
            }
        }
        List<Step> legal = new ArrayList<>();
        for (Step m : all) {
            Place q = behind(p, m);
            if (q.attackers(q.king(p.white), !p.white).isEmpty()) {
                legal.add(m);
            }
        }
        legal.sort(null);
        return legal;
    }

    private static boolean pawnGoes(Place p, int s, int t) {
        int forward = p.white ? 1 : -1;
        int df = t % p.files - s % p.files;
        int dr = (t / p.files - s / p.files) * forward;
        if (df == 0 && dr == 1) {
            return p.on[t] == 0;
        }
        if (df == 0 && dr == 2) {
            int second = p.white ? 1 : p.ranks - 2;
            return p.ranks >= 6 && s / p.files == second && p.on[t] == 0 && p.on[(s + t) / 2] == 0;
        }
        return Math.abs(df) == 1 && dr == 1 && (p.is(p.on[t], !p.white) || t == p.passing);
    }

    private static void castlings(Place p, int s, List<Step> all) {
        if (p.files != 8) {
            return;
        }
        int rank = p.white ? 0 : p.ranks - 1;
        int r = rank * 8;
        int held = p.white ? p.rights & 3 : p.rights >> 2;
        if ((held & 1) != 0 && p.on[r + 5] == 0 && p.on[r + 6] == 0 && calm(p, r + 4, r + 5, r + 6)) {
            all.add(new Step(s, r + 6, 0));
        }
        if ((held & 2) != 0 && p.on[r + 1] == 0 && p.on[r + 2] == 0 && p.on[r + 3] == 0
                && calm(p, r + 4, r + 3, r + 2)) {
            all.add(new Step(s, r + 2, 0));
        }
    }

    private static boolean calm(Place p, int... squares) {
        for (int s : squares) {
            if (!p.attackers(s, !p.white).isEmpty()) {
                return false;
            }
        }
        return true;
    }

    static String name(Place p, int s) {
        return "" + file(p, s) + rank(p, s);
    }

    static char file(Place p, int s) {
        return (char) ('a' + s % p.files);
    }

    static char rank(Place p, int s) {
        return (char) ('1' + s / p.files);
    }

    static boolean mate(Place p) {
        return moves(p).isEmpty() && p.check();
    }

    static String plain(Place p, Step m) {
        if (castles(p, m)) {
            return m.to % p.files == 6 ? "O-O" : "O-O-O";
        }
        int kind = p.white ? p.on[m.from] : p.on[m.from] - 6;
        String x = takes(p, m) ? "x" : "";
        String to = name(p, m.to);
        if (kind == 6) {
            String becomes = m.becomes == 0 ? "" : "=" + LETTERS.charAt(m.becomes);
            return (x.isEmpty() ? "" : file(p, m.from) + x) + to + becomes;
        }
        Set<Character> files = new HashSet<>();
        Set<Character> ranks = new HashSet<>();
        for (Step o : moves(p)) {
            if (o.to == m.to && o.from != m.from && p.on[o.from] == p.on[m.from]) {
                files.add(file(p, o.from));
                ranks.add(rank(p, o.from));
            }
        }
        String origin = "";
        if (!files.isEmpty()) {
            if (!files.contains(file(p, m.from))) {
                origin += file(p, m.from);
            } else if (!ranks.contains(rank(p, m.from))) {
                origin += rank(p, m.from);
            } else {
                origin += name(p, m.from);
            }
        }
        return LETTERS.charAt(kind) + origin + x + to;
    }

    static String full(Place p, Step m) {
        Place q = behind(p, m);
        return plain(p, m) + (mate(q) ? "#" : q.check() ? "+" : "");
    }

    static String paper(Place p) {
        StringBuilder s = new StringBuilder();
        for (int rank = p.ranks - 1; rank >= 0; rank--) {
            StringBuilder row = new StringBuilder();
            for (int file = 0; file < p.files; file++) {
                row.append(LETTERS.charAt(p.at(file, rank)));
            }
            String told = row.toString();
            for (int n = 8; n >= 1; n--) {
                told = told.replace(".".repeat(n), "" + n);
            }
            s.append(told).append(rank > 0 ? "/" : " ");
        }
        s.append(p.white ? "w " : "b ");
        String rights = "";
        for (int i = 0; i < 4; i++) {
            rights += (p.rights >> i & 1) != 0 ? "KQkq".substring(i, i + 1) : "";
        }
        return s.append(rights.isEmpty() ? "-" : rights).append(' ')
                .append(p.passing < 0 ? "-" : name(p, p.passing)).toString();
    }

    /** The position of a paper, null if the text is none. */
    static Place read(String text, int files, int ranks) {
        String[] parts = text.split(" ", -1);
        if (parts.length != 4) {
            return null;
        }
        String[] rows = parts[0].split("/", -1);
        if (rows.length != ranks) {
            return null;
        }
        int[] on = new int[files * ranks];
        for (int i = 0; i < ranks; i++) {
            String row = rows[i];
            if (!row.matches("([KQRBNPkqrbnp]|[1-8](?![1-8]))+")) {
                return null;
            }
            StringBuilder squares = new StringBuilder();
            for (char c : row.toCharArray()) {
                squares.append(Character.isDigit(c) ? ".".repeat(c - '0') : "" + c);
            }
            if (squares.length() != files) {
                return null;
            }
            for (int f = 0; f < files; f++) {
                on[(ranks - 1 - i) * files + f] = LETTERS.indexOf(squares.charAt(f));
            }
        }
        if (!parts[1].matches("[wb]") || !parts[2].matches("-|(?=.)K?Q?k?q?") || !parts[3].matches("-|[a-h][1-8]")) {
            return null;
        }
        int rights = 0;
        for (int i = 0; i < 4; i++) {
            rights |= parts[2].indexOf("KQkq".charAt(i)) >= 0 ? 1 << i : 0;
        }
        int passing = -1;
        boolean white = parts[1].equals("w");
        if (!parts[3].equals("-")) {
            int f = parts[3].charAt(0) - 'a';
            int r = parts[3].charAt(1) - '1';
            if (f >= files || r >= ranks || ranks < 6) {
                return null;
            }
            passing = r * files + f;
            Place q = new Place(files, ranks, on, white, 0, -1);
            int forward = white ? -1 : 1;
            int own = white ? 6 : 12;
            int rival = white ? 12 : 6;
            if (r != (white ? ranks - 3 : 2) || q.at(f, r) != 0 || q.at(f, r - forward) != 0
                    || q.at(f, r + forward) != rival
                    || q.at(f - 1, r + forward) != own && q.at(f + 1, r + forward) != own) {
                return null;
            }
        }
        Place p = new Place(files, ranks, on, white, rights, passing);
        return p.proper() ? p : null;
    }

    /** A game on a shelf. */
    static final class Held {
        List<Place> places;
        List<Step> steps;
        int result;
        int year;
        int strength;
        int box;
        int due;

        boolean passes(String key) {
            for (Place p : places) {
                if (p.key().equals(key)) {
                    return true;
                }
            }
            return false;
        }
    }

    private int files = 8;
    private int ranks = 8;
    private List<Place> places = new ArrayList<>();
    private List<Step> steps = new ArrayList<>();
    private final List<List<Held>> shelves = List.of(new ArrayList<>(), new ArrayList<>());
    private final Map<Integer, Integer> pattern = new HashMap<>();
    private final Set<Integer> solved = new HashSet<>();
    private String text = "";
    private String output = "";
    private int aside = 0;
    private int drill = 0;

    public Oracle() {
        int[] on = new int[64];
        for (int f = 0; f < 8; f++) {
            int kind = new int[] {3, 5, 4, 2, 1, 4, 5, 3}[f];
            on[f] = kind;
            on[8 + f] = 6;
            on[48 + f] = 12;
            on[56 + f] = kind + 6;
        }
        begin(new Place(8, 8, on, true, 15, -1));
    }

    private void begin(Place p) {
        places = new ArrayList<>(List.of(p));
        steps = new ArrayList<>();
    }

    Place now() {
        return places.get(places.size() - 1);
    }

    private void make(Step m) {
        places.add(behind(now(), m));
        steps.add(m);
    }

    private void unmoved() {
        if (!steps.isEmpty()) {
            throw new IllegalStateException();
        }
    }

    private void proper() {
        if (!places.get(0).proper()) {
            throw new IllegalStateException();
        }
    }

    private void square(int s) {
        if (s < 0 || s >= files * ranks) {
            throw new IndexOutOfBoundsException();
        }
    }

    private List<Held> shelf(int shelf) {
        if (shelf < 0 || shelf > 1) {
            throw new IndexOutOfBoundsException();
        }
        return shelves.get(shelf);
    }

    private static void argument(boolean fine) {
        if (!fine) {
            throw new IllegalArgumentException();
        }
    }

    public int newBoard(int f, int r) {
        argument(f >= 4 && f <= 8 && r >= 4 && r <= 8);
        files = f;
        ranks = r;
        begin(new Place(f, r, new int[f * r], true, 0, -1));
        shelves.get(0).clear();
        shelves.get(1).clear();
        pattern.clear();
        solved.clear();
        drill = 0;
        return f * r;
    }

    public int startHere() {
        int n = steps.size();
        begin(now());
        return n;
    }

    public int put(int s, int piece) {
        square(s);
        argument(piece >= 0 && piece <= 12);
        unmoved();
        Place p = now();
        int[] on = p.on.clone();
        on[s] = piece;
        begin(new Place(files, ranks, on, p.white, 0, -1));
        return p.on[s];
    }

    public int setSide(boolean white, int rights) {
        argument(rights >= 0 && rights <= 15);
        unmoved();
        Place p = now();
        begin(new Place(files, ranks, p.on, white, rights, -1));
        return p.rights;
    }

    public int readPaper() {
        Place p = read(text, files, ranks);
        text = "";
        argument(p != null);
        unmoved();
        begin(p);
        return p.pieces();
    }

    public int pieceAt(int s) {
        square(s);
        return now().on[s];
    }

    public boolean isWhiteToMove() {
        return now().white;
    }

    public int rights() {
        return now().rights;
    }

    public int passingSquare() {
        return now().passing;
    }

    public boolean isProper() {
        return now().proper();
    }

    public boolean isAttacked(int s, boolean white) {
        square(s);
        return !now().attackers(s, white).isEmpty();
    }

    public int checkers() {
        proper();
        return now().attackers(now().king(now().white), !now().white).size();
    }

    public boolean isPinned(int s) {
        square(s);
        proper();
        Place p = now();
        int king = p.king(p.white);
        if (!p.is(p.on[s], p.white) || s == king) {
            return false;
        }
        int[] on = p.on.clone();
        on[s] = 0;
        Place without = new Place(files, ranks, on, p.white, p.rights, p.passing);
        List<Integer> then = without.attackers(king, !p.white);
        then.removeAll(p.attackers(king, !p.white));
        then.removeIf(a -> (on[a] - 1) % 6 + 1 < 2 || (on[a] - 1) % 6 + 1 > 4);
        return !then.isEmpty();
    }

    public int writePaper() {
        output = paper(now());
        return output.length();
    }

    public int outputByte(int i) {
        if (i < 0 || i >= output.length()) {
            throw new IndexOutOfBoundsException();
        }
        return output.charAt(i);
    }

    public int material(boolean white) {
        int sum = 0;
        for (int p : now().on) {
            sum += now().is(p, white) ? new int[] {0, 9, 5, 3, 3, 1}[(p - 1) % 6] : 0;
        }
        return sum;
    }

    public boolean isOpenFile(int f) {
        if (f < 0 || f >= files) {
            throw new IndexOutOfBoundsException();
        }
        for (int r = 0; r < ranks; r++) {
            if (now().at(f, r) == 6 || now().at(f, r) == 12) {
                return false;
            }
        }
        return true;
    }

    public int moveCount() {
        proper();
        return moves(now()).size();
    }

    private Step step(int move) {
        proper();
        if (move < 0 || move >= moves(now()).size()) {
            throw new IndexOutOfBoundsException();
        }
        return moves(now()).get(move);
    }

    public int moveFrom(int move) {
        return step(move).from;
    }

    public int moveTo(int move) {
        return step(move).to;
    }

    public int moveBecomes(int move) {
        return step(move).becomes;
    }

    public int writeMove(int move) {
        output = full(now(), step(move));
        return output.length();
    }

    public int play(int move) {
        proper();
        if (steps.size() == 80) {
            throw new IllegalStateException();
        }
        make(step(move));
        return state();
    }

    public int takeBack() {
        if (steps.isEmpty()) {
            throw new IllegalStateException();
        }
        steps.remove(steps.size() - 1);
        places.remove(places.size() - 1);
        return steps.size();
    }

    public int madeCount() {
        return steps.size();
    }

    public int state() {
        proper();
        Place p = now();
        if (moves(p).isEmpty()) {
            return p.check() ? 1 : 2;
        }
        if (p.dead()) {
            return 3;
        }
        if (repetitions() >= 3) {
            return 4;
        }
        int quiet = 0;
        for (int i = 0; i < steps.size(); i++) {
            Place q = places.get(i);
            int piece = q.on[steps.get(i).from];
            quiet = piece == 6 || piece == 12 || takes(q, steps.get(i)) ? 0 : quiet + 1;
        }
        return quiet >= 40 ? 5 : 0;
    }

    public int repetitions() {
        int n = 0;
        for (Place p : places) {
            n += p.key().equals(now().key()) ? 1 : 0;
        }
        return n;
    }

    public int countMoves(int depth, boolean joined) {
        argument(depth >= 1 && depth <= 3);
        proper();
        return rows(now(), depth);
    }

    private static int rows(Place p, int depth) {
        if (depth == 1) {
            return moves(p).size();
        }
        int sum = 0;
        for (Step m : moves(p)) {
            sum += rows(behind(p, m), depth - 1);
        }
        return sum;
    }

    public int type(long bytes) {
        String added = "";
        for (int i = 7; i >= 0; i--) {
            int b = (int) (bytes >> i * 8) & 255;
            argument(b == 0 || b >= 32 && b <= 126);
            added += b == 0 ? "" : "" + (char) b;
        }
        if (text.length() + added.length() > 500) {
            throw new IllegalStateException();
        }
        text += added;
        return text.length();
    }

    public int clearText() {
        int n = text.length();
        text = "";
        return n;
    }

    /** A token cannot stand at a place. */
    private static final class Fault extends RuntimeException {
        private static final long serialVersionUID = 1L;
        final int place;

        Fault(int place) {
            super(null, null, false, false);
            this.place = place;
        }
    }

    /** Reads a text by its grammar, one function for each line. */
    private final class Parse {
        final List<String> tokens = new ArrayList<>();
        final List<Integer> starts = new ArrayList<>();
        final List<Step> line = new ArrayList<>();
        int next = 0;
        int aside = 0;

        Parse() {
            int i = 0;
            while (i < text.length()) {
                char c = text.charAt(i);
                int end = i + 1;
                if (c == '{') {
                    int close = text.indexOf('}', i);
                    end = close < 0 ? text.length() : close + 1;
                } else if ("()} ".indexOf(c) < 0) {
                    while (end < text.length() && "(){} ".indexOf(text.charAt(end)) < 0) {
                        end++;
                    }
                }
                if (c != ' ') {
                    tokens.add(text.substring(i, end));
                    starts.add(i);
                }
                i = end;
            }
        }

        String token() {
            return next < tokens.size() ? tokens.get(next) : null;
        }

        RuntimeException bad() {
            return new Fault(next < tokens.size() ? starts.get(next) : text.length());
        }

        void whole() {
            line(now(), 0);
            if (token() != null && token().matches("1-0|0-1|1/2-1/2|\\*")) {
                next++;
            }
            if (token() != null) {
                throw bad();
            }
        }

        /** A line ends before what can be neither a number, a move, a variation nor a note. */
        int line(Place start, int depth) {
            Place before = null;
            Place at = start;
            int made = 0;
            while (true) {
                String t = token();
                if (t == null) {
                    return made;
                }
                if (t.startsWith("{") && before != null) {
                    if (!t.endsWith("}")) {
                        next = tokens.size();
                        throw bad();
                    }
                    next++;
                } else if (t.equals("(") && before != null && depth < 4) {
                    next++;
                    if (line(before, depth + 1) == 0) {
                        throw bad();
                    }
                    if (token() == null || !token().equals(")")) {
                        throw bad();
                    }
                    next++;
                } else {
                    boolean numbered = t.matches("[0-9]{1,3}(\\.|\\.\\.\\.)");
                    if (numbered) {
                        next++;
                    }
                    Step found = token() == null ? null : find(at, token());
                    boolean room = depth > 0 || steps.size() + line.size() < 80;
                    if (found == null || !room) {
                        if (numbered || found != null) {
                            throw bad();
                        }
                        return made;
                    }
                    if (depth == 0) {
                        line.add(found);
                    } else {
                        aside++;
                    }
                    before = at;
                    at = behind(at, found);
                    made++;
                    next++;
                }
            }
        }

        Step find(Place p, String token) {
            for (Step m : moves(p)) {
                if (token.startsWith(plain(p, m)) && (token.equals(full(p, m)) || token.equals(plain(p, m)))) {
                    return m;
                }
            }
            return null;
        }
    }

    public int fault() {
        proper();
        try {
            new Parse().whole();
            return -1;
        } catch (Fault f) {
            return f.place;
        }
    }

    public int readMoves() {
        try {
            proper();
            Parse parse = new Parse();
            parse.whole();
            parse.line.forEach(this::make);
            aside = parse.aside;
            return parse.line.size();
        } catch (Fault f) {
            throw new IllegalArgumentException();
        } finally {
            text = "";
        }
    }

    public int variationMoves() {
        return aside;
    }

    public int addGame(int shelf, int result, int year, int strength) {
        List<Held> games = shelf(shelf);
        argument(result >= 0 && result <= 2);
        argument(year >= 1800 && year <= 2100);
        argument(strength >= 0 && strength <= 3500);
        proper();
        if (games.size() == 40) {
            throw new IllegalStateException();
        }
        Held g = new Held();
        g.places = new ArrayList<>(places);
        g.steps = new ArrayList<>(steps);
        g.result = result;
        g.year = year;
        g.strength = strength;
        games.add(g);
        return games.size() - 1;
    }

    public int gameCount(int shelf) {
        return shelf(shelf).size();
    }

    private Held game(int shelf, int game) {
        if (game < 0 || game >= shelf(shelf).size()) {
            throw new IndexOutOfBoundsException();
        }
        return shelf(shelf).get(game);
    }

    public int gameLength(int shelf, int game) {
        return game(shelf, game).steps.size();
    }

    private Map<String, Place> different(int shelf) {
        Map<String, Place> all = new LinkedHashMap<>();
        for (Held g : shelf(shelf)) {
            for (Place p : g.places) {
                all.put(p.key(), p);
            }
        }
        return all;
    }

    public int positionCount(int shelf) {
        return different(shelf).size();
    }

    private List<Held> through(int shelf) {
        List<Held> found = new ArrayList<>();
        for (Held g : shelf(shelf)) {
            if (g.passes(now().key())) {
                found.add(g);
            }
        }
        return found;
    }

    public int count(int shelf) {
        return through(shelf).size();
    }

    public int countWith(int shelf, int result) {
        shelf(shelf);
        argument(result >= 0 && result <= 2);
        return (int) through(shelf).stream().filter(g -> g.result == result).count();
    }

    public int countYears(int shelf, int from, int to) {
        shelf(shelf);
        argument(from <= to);
        return (int) through(shelf).stream().filter(g -> g.year >= from && g.year <= to).count();
    }

    public int meanStrength(int shelf, boolean bottom) {
        List<Held> found = through(shelf);
        if (found.isEmpty()) {
            throw new NoSuchElementException();
        }
        int top = found.stream().mapToInt(g -> g.strength).sum();
        int low = found.size();
        for (int d = low; d > 1; d--) {
            if (top % d == 0 && low % d == 0) {
                top /= d;
                low /= d;
            }
        }
        return bottom ? low : top;
    }

    /** The continuations by their letters, with the numbers of the games that made them. */
    private TreeMap<String, Set<Integer>> follow(int shelf) {
        TreeMap<String, Set<Integer>> all = new TreeMap<>();
        for (int g = 0; g < shelf(shelf).size(); g++) {
            Held h = shelf(shelf).get(g);
            for (int i = 0; i < h.steps.size(); i++) {
                if (h.places.get(i).key().equals(now().key())) {
                    all.computeIfAbsent(full(now(), h.steps.get(i)), k -> new HashSet<>()).add(g);
                }
            }
        }
        return all;
    }

    private int number(String letters) {
        for (int i = 0; i < moves(now()).size(); i++) {
            if (full(now(), moves(now()).get(i)).equals(letters)) {
                return i;
            }
        }
        throw new AssertionError(letters);
    }

    public int continuations(int shelf) {
        shelf(shelf);
        proper();
        return follow(shelf).size();
    }

    private String follower(int shelf, int index) {
        proper();
        List<String> all = new ArrayList<>(follow(shelf).keySet());
        if (index < 0 || index >= all.size()) {
            throw new IndexOutOfBoundsException();
        }
        return all.get(index);
    }

    public int continuationAt(int shelf, int index) {
        return number(follower(shelf, index));
    }

    public int gamesOf(int shelf, int index) {
        String letters = follower(shelf, index);
        return follow(shelf).get(letters).size();
    }

    public int playMain(int shelf, int moves) {
        shelf(shelf);
        argument(moves >= 1 && moves <= 80);
        proper();
        for (int made = 0; made < moves; made++) {
            String best = null;
            TreeMap<String, Set<Integer>> all = follow(shelf);
            for (String letters : all.keySet()) {
                if (best == null || all.get(letters).size() > all.get(best).size()) {
                    best = letters;
                }
            }
            if (best == null || steps.size() == 80) {
                return made;
            }
            make(moves(now()).get(number(best)));
        }
        return moves;
    }

    public int firstNew(int shelf, int game) {
        Held g = game(shelf, game);
        for (int i = 0; i < g.places.size(); i++) {
            boolean known = false;
            for (int other = 0; other < game; other++) {
                known |= shelf(shelf).get(other).passes(g.places.get(i).key());
            }
            if (!known) {
                return i;
            }
        }
        return -1;
    }

    public int merge() {
        int came = 0;
        for (Held g : shelves.get(1)) {
            boolean like = false;
            for (Held o : shelves.get(0)) {
                like |= o.places.get(0).key().equals(g.places.get(0).key()) && o.steps.equals(g.steps);
            }
            if (!like && shelves.get(0).size() < 40) {
                g.box = 0;
                g.due = 0;
                shelves.get(0).add(g);
                came++;
            }
        }
        shelves.get(1).clear();
        return came;
    }

    public int ask(int s, int what) {
        square(s);
        argument(what >= 0 && what <= 15);
        Integer before = pattern.put(s, what);
        return before == null ? 15 : before;
    }

    private boolean fits(Place p) {
        for (int s : pattern.keySet()) {
            int what = pattern.get(s);
            boolean fine = what == 15 || what == 13 && p.is(p.on[s], true) || what == 14 && p.is(p.on[s], false)
                    || what == p.on[s];
            if (!fine) {
                return false;
            }
        }
        return true;
    }

    public boolean holds() {
        return fits(now());
    }

    public int patternCount(int shelf) {
        int n = 0;
        for (Place p : different(shelf).values()) {
            n += fits(p) ? 1 : 0;
        }
        return n;
    }

    private static boolean key(Place p, Step m, int n) {
        Place q = behind(p, m);
        if (n == 1) {
            return q.check() && mate(q);
        }
        for (Step reply : moves(q)) {
            if (forced(behind(q, reply), 1).isEmpty()) {
                return false;
            }
        }
        return !moves(q).isEmpty() || q.check();
    }

    private static final Map<String, List<Integer>> KEYS = new HashMap<>();

    private static List<Integer> forced(Place p, int n) {
        String name = n + ":" + p.files + "x" + p.ranks + p.key();
        List<Integer> keys = KEYS.get(name);
        if (keys == null) {
            keys = new ArrayList<>();
            for (int i = 0; i < moves(p).size(); i++) {
                if (key(p, moves(p).get(i), n)) {
                    keys.add(i);
                }
            }
            KEYS.put(name, keys);
        }
        return keys;
    }

    private List<Integer> keys() {
        proper();
        List<Integer> one = forced(now(), 1);
        return one.isEmpty() ? forced(now(), 3) : one;
    }

    public int forcesMate() {
        return keys().isEmpty() ? -1 : forced(now(), 1).isEmpty() ? 3 : 1;
    }

    public int keyCount() {
        return keys().size();
    }

    public int firstKey() {
        if (keys().isEmpty()) {
            throw new NoSuchElementException();
        }
        return keys().get(0);
    }

    private static final Map<String, Map<String, Integer>> ENDINGS = new HashMap<>();

    /** The values of the positions of an ending that White wins, by sweeps over all positions. */
    private Map<String, Integer> ending(int kind) {
        return ENDINGS.computeIfAbsent(files + "x" + ranks + "k" + kind, k -> sweep(kind));
    }

    private Map<String, Integer> sweep(int kind) {
        Map<String, Place> all = new LinkedHashMap<>();
        int size = files * ranks;
        for (int i = 0; i < 2 * size * size * size; i++) {
            int k = i / 2 % size;
            int r = i / 2 / size % size;
            int x = i / 2 / size / size;
            if (k == r || k == x || r == x) {
                continue;
            }
            int[] on = new int[size];
            on[k] = 1;
            on[r] = 7;
            on[x] = kind;
            Place p = new Place(files, ranks, on, i % 2 == 0, 0, -1);
            if (p.proper()) {
                all.put(p.key(), p);
            }
        }
        Map<String, List<String>> next = new HashMap<>();
        Map<String, Integer> won = new HashMap<>();
        for (String key : all.keySet()) {
            Place p = all.get(key);
            List<String> behind = new ArrayList<>();
            for (Step m : findMoves(p)) {
                behind.add(behind(p, m).key());
            }
            next.put(key, behind);
            if (!p.white && behind.isEmpty() && p.check()) {
                won.put(key, 0);
            }
        }
        for (int n = 1, idle = 0; idle < 2; n++) {
            Set<String> fresh = new HashSet<>();
            for (String key : all.keySet()) {
                boolean white = all.get(key).white;
                if (won.containsKey(key) || white != (n % 2 == 1)) {
                    continue;
                }
                List<String> behind = next.get(key);
                int wins = 0;
                for (String b : behind) {
                    wins += won.containsKey(b) ? 1 : 0;
                }
                if (white ? wins > 0 : wins > 0 && wins == behind.size()) {
                    fresh.add(key);
                }
            }
            for (String key : fresh) {
                won.put(key, n);
            }
            idle = fresh.isEmpty() ? idle + 1 : 0;
        }
        return won;
    }

    public int solve(int kind) {
        argument(kind >= 2 && kind <= 5);
        if (files * ranks > 25) {
            throw new IllegalStateException();
        }
        solved.add(kind);
        return ending(kind).size();
    }

    public int endingValue() {
        Place p = now();
        int kind = 0;
        for (int piece : p.on) {
            kind = piece >= 2 && piece <= 5 ? piece : kind;
        }
        if (p.pieces() != 3 || kind == 0 || !p.proper() || p.rights != 0 || p.passing >= 0
                || !solved.contains(kind)) {
            throw new IllegalStateException();
        }
        return ending(kind).getOrDefault(p.key(), -1);
    }

    public int longest(int kind) {
        argument(kind >= 2 && kind <= 5);
        if (!solved.contains(kind)) {
            throw new IllegalStateException();
        }
        return ending(kind).values().stream().max(Integer::compare).orElse(-1);
    }

    public int asked() {
        List<Held> games = shelves.get(0);
        if (games.isEmpty()) {
            throw new NoSuchElementException();
        }
        int best = 0;
        for (int i = 0; i < games.size(); i++) {
            if (Arrays.compare(rank(games, i), rank(games, best)) < 0) {
                best = i;
            }
        }
        return best;
    }

    private static int[] rank(List<Held> games, int i) {
        return new int[] {games.get(i).due, games.get(i).box, i};
    }

    public int answer(boolean right) {
        Held g = shelves.get(0).get(asked());
        drill++;
        g.box = right ? Math.min(4, g.box + 1) : 0;
        g.due = drill + (int) Math.pow(2, g.box);
        return g.box;
    }

    public double meanLength(int shelf) {
        double sum = 0;
        for (Held g : shelf(shelf)) {
            sum += g.steps.size();
        }
        return shelf(shelf).isEmpty() ? 0.0 : sum / shelf(shelf).size();
    }

    public float shareWon(int shelf) {
        int all = count(shelf);
        return all == 0 ? 0.0f : (float) countWith(shelf, 0) / (float) all;
    }

    public int errors() {
        return 0;
    }
}
