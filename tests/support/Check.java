import java.util.List;
import java.util.concurrent.Callable;

/** What the tests share: they compare answers, and put texts into a cabinet and take them out. */
final class Check {
    /** The letters of the pieces, by their numbers. */
    static final String PIECES = ".KQRBNPkqrbnp";

    private static int wrong = 0;
    private static int done = 0;

    private Check() {
    }

    /** The answer of a call must be the one that is due. */
    static void same(String what, Object got, Object due) {
        done++;
        if (!got.equals(due)) {
            wrong++;
            System.out.println(what + " answered " + got + ", due is " + due);
        }
    }

    /** A call must throw just this exception. */
    static void refuses(String what, Class<? extends Exception> due, Callable<?> call) {
        same(what, thrownBy(call), due.getSimpleName());
    }

    /** The name of the exception that a call throws, or what it answers. */
    static String thrownBy(Callable<?> call) {
        try {
            return String.valueOf(call.call());
        } catch (Exception e) {
            return e.getClass().getSimpleName();
        }
    }

    /** Empties the text and types another one. */
    static void type(OpeningsCabinet x, String text) {
        x.clearText();
        for (int start = 0; start < text.length(); start += 8) {
            x.type(packed(text.substring(start, Math.min(start + 8, text.length()))));
        }
    }

    /** Up to 8 bytes as a number, the first one highest. */
    static long packed(String bytes) {
        long number = 0;
        for (int i = 0; i < bytes.length(); i++) {
            number = number << 8 | bytes.charAt(i);
        }
        return number;
    }

    /** Reads a paper, from a board of its size without games. */
    static int paper(OpeningsCabinet x, String paper) {
        type(x, paper);
        return x.readPaper();
    }

    /** Takes a new board of the size of the paper and reads it. */
    static int board(OpeningsCabinet x, String paper) {
        x.newBoard(files(paper), paper.substring(0, paper.indexOf(' ')).split("/").length);
        return paper(x, paper);
    }

    /** The number of the files of a paper, by its first rank. */
    static int files(String paper) {
        int files = 0;
        for (char sign : paper.substring(0, paper.indexOf('/')).toCharArray()) {
            files += Character.isDigit(sign) ? sign - '0' : 1;
        }
        return files;
    }

    /** A cabinet of this size whose squares are put one by one, as no paper tells a position that is not proper. */
    static OpeningsCabinet placed(String squares, boolean isWhite, int rights) {
        String[] ranks = squares.split("/");
        int files = files(squares);
        OpeningsCabinet x = new OpeningsCabinet();
        x.newBoard(files, ranks.length);
        for (int i = 0; i < ranks.length; i++) {
            int file = 0;
            for (char sign : ranks[i].toCharArray()) {
                if (Character.isDigit(sign)) {
                    file += sign - '0';
                } else {
                    x.put((ranks.length - 1 - i) * files + file, PIECES.indexOf(sign));
                    file++;
                }
            }
        }
        x.setSide(isWhite, rights);
        return x;
    }

    /** The name of a square on a board with so many files. */
    static String name(int square, int files) {
        return "" + (char) ('a' + square % files) + (char) ('1' + square / files);
    }

    /** The number of a square on a board with so many files. */
    static int square(String name, int files) {
        return (name.charAt(1) - '1') * files + name.charAt(0) - 'a';
    }

    /** A cabinet in which the paper was read. */
    static OpeningsCabinet at(String paper) {
        OpeningsCabinet x = new OpeningsCabinet();
        board(x, paper);
        return x;
    }

    /** Reads a text of moves. */
    static int moves(OpeningsCabinet x, String text) {
        type(x, text);
        return x.readMoves();
    }

    /** The paper of the present position. */
    static String paper(OpeningsCabinet x) {
        return output(x, x.writePaper());
    }

    /** The letters of a move. */
    static String letters(OpeningsCabinet x, int move) {
        return output(x, x.writeMove(move));
    }

    /** The number of the move with these letters, -1 without one. */
    static int number(OpeningsCabinet x, String letters) {
        return List.of(allLetters(x).split(" ")).indexOf(letters);
    }

    /** The letters of all moves, with blanks between. */
    static String allLetters(OpeningsCabinet x) {
        StringBuilder all = new StringBuilder();
        int number = x.moveCount();
        for (int move = 0; move < number; move++) {
            all.append(move == 0 ? "" : " ").append(letters(x, move));
        }
        return all.toString();
    }

    /** The bytes of the output. */
    static String output(OpeningsCabinet x, int length) {
        StringBuilder bytes = new StringBuilder();
        for (int i = 0; i < length; i++) {
            bytes.append((char) x.outputByte(i));
        }
        return bytes.toString();
    }

    /** Whether a text of moves has no fault. */
    static boolean isSound(OpeningsCabinet x, String text) {
        type(x, text);
        return x.fault() == OpeningsCabinet.NONE;
    }

    /** So many full rounds of four moves of knights, from the usual first position back to it. */
    static void rounds(OpeningsCabinet x, int number) {
        for (int i = 0; i < number; i++) {
            moves(x, "Nf3 Nf6 Ng1 Ng8");
        }
    }

    /** Tells what was wrong, as the exit code too. */
    static void end(String name) {
        System.out.println(name + ": " + done + " checks, " + wrong + " wrong");
        if (wrong != 0) {
            System.exit(1);
        }
    }
}
