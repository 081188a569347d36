import java.util.List;
import java.util.NoSuchElementException;
import java.util.function.Consumer;
import java.util.function.Function;

/**
 * Section 13: the order of exceptions, and that a call that throws one changes nothing, but for the text of readMoves()
 * and readPaper(). Of two cabinets with the same calls ahead one refuses a call; all that is asked of them behind it,
 * and all that is done with them, must be answered the same.
 */
public final class RefusalsTest {
    private static final Class<IllegalArgumentException> ARGUMENT = IllegalArgumentException.class;
    private static final Class<IllegalStateException> STATE = IllegalStateException.class;
    private static final Class<IndexOutOfBoundsException> INDEX = IndexOutOfBoundsException.class;
    private static final Class<NoSuchElementException> NOTHING = NoSuchElementException.class;

    /** What is asked of a cabinet; each of these with a cabinet of its own, as some of them change it. */
    private static final List<Function<OpeningsCabinet, String>> QUESTIONS = List.of(
            RefusalsTest::output, RefusalsTest::position, RefusalsTest::movesTakenBack, RefusalsTest::textOfMoves,
            RefusalsTest::textOfPaper, x -> "" + x.clearText(), x -> shelf(x, 0), x -> shelf(x, 1),
            RefusalsTest::merged, RefusalsTest::drill, RefusalsTest::pattern, RefusalsTest::endings,
            RefusalsTest::newGame);

    public static void main(String[] args) {
        afterMoves();
        notProper();
        newObject();
        fullGame();
        fullShelf();
        fullText();
        smallBoard();
        textsThatAreRead();
        orderOfSettingUp();
        orderOfMoves();
        orderOfTexts();
        orderOfShelves();
        orderOfTheRest();
        Check.end("RefusalsTest");
    }

    // ---- what is asked

    private static String output(OpeningsCabinet x) {
        StringBuilder all = new StringBuilder();
        for (int i = 0; i < 90; i++) {
            int index = i;
            all.append(Check.thrownBy(() -> x.outputByte(index))).append(' ');
        }
        return all.toString();
    }

    private static String position(OpeningsCabinet x) {
        return Check.paper(x) + " " + x.madeCount() + " " + x.repetitions() + " " + x.variationMoves() + " "
                + x.isProper()
                + " " + Check.thrownBy(x::state) + " " + Check.thrownBy(x::moveCount) + " " + x.errors();
    }

    private static String movesTakenBack(OpeningsCabinet x) {
        StringBuilder all = new StringBuilder();
        while (x.madeCount() > 0) {
            all.append(x.takeBack()).append(' ').append(x.repetitions()).append(' ').append(x.rights()).append(' ');
        }
        return all.append(Check.paper(x)).toString();
    }

    private static String textOfMoves(OpeningsCabinet x) {
        return Check.thrownBy(x::fault) + " " + Check.thrownBy(x::readMoves) + " " + x.variationMoves() + " "
                + position(x);
    }

    private static String textOfPaper(OpeningsCabinet x) {
        return x.startHere() + " " + Check.thrownBy(x::readPaper) + " " + position(x);
    }

    private static String shelf(OpeningsCabinet x, int shelf) {
        StringBuilder all = new StringBuilder();
        int games = x.gameCount(shelf);
        for (int game = 0; game < games; game++) {
            all.append(x.gameLength(shelf, game)).append(':').append(x.firstNew(shelf, game)).append(' ');
        }
        all.append(x.positionCount(shelf)).append(' ').append(x.meanLength(shelf)).append(' ');
        for (int back = 0; back < 3; back++) {
            all.append(x.count(shelf)).append(' ').append(x.countYears(shelf, 1900, 1990)).append(' ');
            all.append(x.countWith(shelf, 0)).append(' ').append(x.countWith(shelf, 2)).append(' ');
            all.append(Check.thrownBy(() -> x.meanStrength(shelf, false))).append(' ').append(x.shareWon(shelf))
                    .append(' ');
            all.append(Check.thrownBy(() -> x.continuations(shelf))).append(' ');
            all.append(Check.thrownBy(() -> x.continuationAt(shelf, 0))).append(' ');
            all.append(Check.thrownBy(x::takeBack)).append(' ');
        }
        return all.toString();
    }

    private static String merged(OpeningsCabinet x) {
        return x.merge() + " " + shelf(x, 0) + shelf(x, 1);
    }

    private static String drill(OpeningsCabinet x) {
        StringBuilder all = new StringBuilder();
        for (int i = 0; i < 24; i++) {
            boolean isRight = i % 3 != 1;
            all.append(Check.thrownBy(x::asked)).append(' ').append(Check.thrownBy(() -> x.answer(isRight)))
                    .append(' ');
        }
        return all.toString();
    }

    private static String pattern(OpeningsCabinet x) {
        StringBuilder all = new StringBuilder();
        all.append(x.holds()).append(' ').append(x.patternCount(0)).append(' ').append(x.patternCount(1)).append(' ');
        for (int i = 0; i < 65; i++) {
            int square = i;
            all.append(Check.thrownBy(() -> x.ask(square, 15))).append(' ');
        }
        return all.toString();
    }

    private static String endings(OpeningsCabinet x) {
        StringBuilder all = new StringBuilder();
        for (int i = 2; i <= 5; i++) {
            int kind = i;
            all.append(Check.thrownBy(() -> x.longest(kind))).append(' ');
        }
        return all.append(Check.thrownBy(x::endingValue)).toString();
    }

    private static String newGame(OpeningsCabinet x) {
        return x.startHere() + " " + x.repetitions() + " " + Check.thrownBy(() -> x.addGame(0, 1, 1950, 5)) + " "
                + x.gameCount(0)
                + " " + Check.thrownBy(() -> x.type(0x20)) + " " + position(x);
    }

    // ---- cabinets of many kinds

    private static void rich(OpeningsCabinet x) {
        Check.moves(x, "e4 e5 (c5) Nf3");
        x.addGame(0, 0, 1900, 1);
        Check.moves(x, "Nc6 (d6 d4)");
        x.addGame(1, 2, 1950, 2000);
        x.addGame(0, 2, 1980, 30);
        x.ask(28, 13);
        x.ask(0, 3);
        x.answer(true);
        x.writeMove(3);
        Check.type(x, "Bb5 a6 {x} (Nf6)");
    }

    private static void improper(OpeningsCabinet x) {
        Check.moves(x, "e4");
        x.addGame(0, 0, 1900, 1);
        x.addGame(1, 1, 1901, 2);
        x.takeBack();
        x.setSide(true, 5);
        x.put(4, 0);
        x.setSide(true, 7);
        x.ask(4, 0);
        x.writePaper();
        Check.type(x, "d4");
    }

    private static void played(OpeningsCabinet x) {
        Check.rounds(x, 20);
        x.addGame(0, 0, 1900, 1);
        x.writeMove(0);
        Check.type(x, " *");
    }

    private static void shelved(OpeningsCabinet x) {
        Check.moves(x, "d4");
        for (int game = 0; game < 40; game++) {
            x.addGame(0, game % 3, 1900 + game, game);
            x.addGame(1, 0, 1900, 1);
        }
        x.takeBack();
        Check.type(x, "e4");
    }

    private static void typed(OpeningsCabinet x) {
        Check.type(x, "e4 {" + "a".repeat(487) + "} e5 (d5");
        x.type(0x29);
        Check.same("length", x.type(0), 500);
    }

    private static void small(OpeningsCabinet x) {
        x.newBoard(5, 5);
        x.solve(3);
        Check.paper(x, "k4/5/2K2/5/3Q1 w - -");
        x.addGame(0, 0, 1900, 1);
        x.writePaper();
        Check.type(x, "k4/5/2K2/5/3R1 b - -");
    }

    // ---- what is refused

    /** The call throws just this exception, and nothing that is asked behind it tells of it. */
    private static void refused(String what, Consumer<OpeningsCabinet> ahead, Class<? extends Exception> due,
            Function<OpeningsCabinet, Object> call) {
        refused(what, ahead, due, call, x -> { });
    }

    private static void refused(String what, Consumer<OpeningsCabinet> ahead, Class<? extends Exception> due,
            Function<OpeningsCabinet, Object> call, Consumer<OpeningsCabinet> inItsPlace) {
        for (int i = 0; i < QUESTIONS.size(); i++) {
            OpeningsCabinet x = new OpeningsCabinet();
            OpeningsCabinet y = new OpeningsCabinet();
            ahead.accept(x);
            ahead.accept(y);
            Check.refuses(what, due, () -> call.apply(x));
            inItsPlace.accept(y);
            Check.same("question " + i + " behind the refused " + what, QUESTIONS.get(i).apply(x),
                    QUESTIONS.get(i).apply(y));
        }
    }

    private static void afterMoves() {
        Consumer<OpeningsCabinet> rich = RefusalsTest::rich;
        refused("newBoard of 3 files", rich, ARGUMENT, x -> x.newBoard(3, 8));
        refused("newBoard of 9 ranks", rich, ARGUMENT, x -> x.newBoard(8, 9));
        refused("put on no square", rich, INDEX, x -> x.put(64, 0));
        refused("put of no piece", rich, ARGUMENT, x -> x.put(28, 13));
        refused("put behind moves", rich, STATE, x -> x.put(28, 0));
        refused("setSide with 16", rich, ARGUMENT, x -> x.setSide(true, 16));
        refused("setSide behind moves", rich, STATE, x -> x.setSide(false, 3));
        refused("pieceAt", rich, INDEX, x -> x.pieceAt(64));
        refused("isAttacked", rich, INDEX, x -> x.isAttacked(-1, true));
        refused("isPinned", rich, INDEX, x -> x.isPinned(64));
        refused("outputByte", rich, INDEX, x -> x.outputByte(8));
        refused("isOpenFile", rich, INDEX, x -> x.isOpenFile(8));
        refused("moveFrom", rich, INDEX, x -> x.moveFrom(99));
        refused("moveTo", rich, INDEX, x -> x.moveTo(-1));
        refused("moveBecomes", rich, INDEX, x -> x.moveBecomes(99));
        refused("writeMove", rich, INDEX, x -> x.writeMove(99));
        refused("play", rich, INDEX, x -> x.play(99));
        refused("countMoves", rich, ARGUMENT, x -> x.countMoves(4, true));
        refused("type", rich, ARGUMENT, x -> x.type(0x313180L));
        refused("type of a low byte", rich, ARGUMENT, x -> x.type(0x3131001FL));
        refused("addGame to no shelf", rich, INDEX, x -> x.addGame(2, 0, 1900, 1));
        refused("addGame with the result 3", rich, ARGUMENT, x -> x.addGame(0, 3, 1900, 1));
        refused("addGame of 1799", rich, ARGUMENT, x -> x.addGame(0, 0, 1799, 1));
        refused("addGame of the strength 3501", rich, ARGUMENT, x -> x.addGame(1, 0, 1900, 3501));
        refused("gameCount", rich, INDEX, x -> x.gameCount(2));
        refused("gameLength", rich, INDEX, x -> x.gameLength(0, 2));
        refused("positionCount", rich, INDEX, x -> x.positionCount(-1));
        refused("count", rich, INDEX, x -> x.count(2));
        refused("countWith", rich, ARGUMENT, x -> x.countWith(0, 3));
        refused("countYears", rich, ARGUMENT, x -> x.countYears(0, 2, 1));
        refused("meanStrength of no shelf", rich, INDEX, x -> x.meanStrength(2, true));
        refused("continuations", rich, INDEX, x -> x.continuations(2));
        refused("continuationAt", rich, INDEX, x -> x.continuationAt(0, 1));
        refused("gamesOf", rich, INDEX, x -> x.gamesOf(0, 1));
        refused("playMain of no shelf", rich, INDEX, x -> x.playMain(2, 1));
        refused("playMain of 81", rich, ARGUMENT, x -> x.playMain(0, 81));
        refused("firstNew", rich, INDEX, x -> x.firstNew(0, 2));
        refused("ask of no square", rich, INDEX, x -> x.ask(64, 0));
        refused("ask of 16", rich, ARGUMENT, x -> x.ask(28, 16));
        refused("patternCount", rich, INDEX, x -> x.patternCount(2));
        refused("firstKey", rich, NOTHING, OpeningsCabinet::firstKey);
        refused("solve of 6", rich, ARGUMENT, x -> x.solve(6));
        refused("solve on 64 squares", rich, STATE, x -> x.solve(2));
        refused("endingValue", rich, STATE, OpeningsCabinet::endingValue);
        refused("longest of 1", rich, ARGUMENT, x -> x.longest(1));
        refused("longest of the unsolved", rich, STATE, x -> x.longest(2));
        refused("meanLength", rich, INDEX, x -> x.meanLength(2));
        refused("shareWon", rich, INDEX, x -> x.shareWon(-1));
    }

    private static void notProper() {
        Consumer<OpeningsCabinet> improper = RefusalsTest::improper;
        refused("checkers", improper, STATE, OpeningsCabinet::checkers);
        refused("isPinned", improper, STATE, x -> x.isPinned(0));
        refused("moveCount", improper, STATE, OpeningsCabinet::moveCount);
        refused("moveFrom", improper, STATE, x -> x.moveFrom(0));
        refused("writeMove", improper, STATE, x -> x.writeMove(0));
        refused("play", improper, STATE, x -> x.play(0));
        refused("state", improper, STATE, OpeningsCabinet::state);
        refused("countMoves", improper, STATE, x -> x.countMoves(1, false));
        refused("fault", improper, STATE, OpeningsCabinet::fault);
        refused("addGame", improper, STATE, x -> x.addGame(0, 0, 1900, 1));
        refused("meanStrength", improper, NOTHING, x -> x.meanStrength(0, false));
        refused("continuations", improper, STATE, x -> x.continuations(0));
        refused("continuationAt", improper, STATE, x -> x.continuationAt(0, 0));
        refused("gamesOf", improper, STATE, x -> x.gamesOf(0, 0));
        refused("playMain", improper, STATE, x -> x.playMain(0, 1));
        refused("forcesMate", improper, STATE, OpeningsCabinet::forcesMate);
        refused("keyCount", improper, STATE, OpeningsCabinet::keyCount);
        refused("firstKey", improper, STATE, OpeningsCabinet::firstKey);
        refused("put of no piece", improper, ARGUMENT, x -> x.put(0, -1));
        refused("setSide with -1", improper, ARGUMENT, x -> x.setSide(false, -1));
    }

    private static void newObject() {
        Consumer<OpeningsCabinet> nothing = x -> { };
        refused("takeBack", nothing, STATE, OpeningsCabinet::takeBack);
        refused("asked", nothing, NOTHING, OpeningsCabinet::asked);
        refused("a right answer", nothing, NOTHING, x -> x.answer(true));
        refused("a wrong answer", nothing, NOTHING, x -> x.answer(false));
        refused("a right answer, games behind it", x -> x.addGame(1, 0, 1900, 1), NOTHING, x -> x.answer(true));
        refused("meanStrength", nothing, NOTHING, x -> x.meanStrength(0, true));
        refused("outputByte", nothing, INDEX, x -> x.outputByte(0));
        refused("gameLength", nothing, INDEX, x -> x.gameLength(0, 0));
    }

    private static void fullGame() {
        refused("the 81st move", RefusalsTest::played, STATE, x -> x.play(0));
        refused("the 81st move that is none", RefusalsTest::played, STATE, x -> x.play(-1));
    }

    private static void fullShelf() {
        refused("the 41st game", RefusalsTest::shelved, STATE, x -> x.addGame(0, 0, 1900, 1));
        refused("the 41st game of the shelf 1", RefusalsTest::shelved, STATE, x -> x.addGame(1, 0, 1900, 1));
    }

    private static void fullText() {
        refused("the 501st byte", RefusalsTest::typed, STATE, x -> x.type(0x65));
        refused("eight bytes more", RefusalsTest::typed, STATE, x -> x.type(0x6565656565656565L));
        refused("a byte that is none", RefusalsTest::typed, ARGUMENT, x -> x.type(0x7F));
        // With room for 7 bytes none of 8 is put behind the text.
        Consumer<OpeningsCabinet> nearly = x -> Check.type(x, "e4 {" + "a".repeat(484) + "} *  ");
        refused("eight bytes for seven", nearly, STATE, x -> x.type(0x2020202020202020L));
    }

    private static void smallBoard() {
        Consumer<OpeningsCabinet> small = RefusalsTest::small;
        refused("endingValue of the unsolved", small, STATE, OpeningsCabinet::endingValue);
        refused("longest of the unsolved", small, STATE, x -> x.longest(2));
        refused("longest of 6", small, ARGUMENT, x -> x.longest(6));
        refused("solve of 6", small, ARGUMENT, x -> x.solve(6));
        refused("solve of 1", small, ARGUMENT, x -> x.solve(1));
        refused("a new board", small, ARGUMENT, x -> x.newBoard(3, 3));
        refused("put on the square 25", small, INDEX, x -> x.put(25, 0));
        refused("ask of the square 25", small, INDEX, x -> x.ask(25, 0));
    }

    /** "but for what is told at readMoves() and readPaper()": the text is empty then, and nothing else is changed. */
    private static void textsThatAreRead() {
        Consumer<OpeningsCabinet> clear = OpeningsCabinet::clearText;
        refused("readPaper of moves", RefusalsTest::rich, ARGUMENT, OpeningsCabinet::readPaper, clear);
        refused("readPaper of no paper", RefusalsTest::improper, ARGUMENT, OpeningsCabinet::readPaper, clear);
        refused("readPaper of a full text", RefusalsTest::typed, ARGUMENT, OpeningsCabinet::readPaper, clear);
        refused("readMoves without a proper position", RefusalsTest::improper, STATE, OpeningsCabinet::readMoves,
                clear);
        refused("readMoves of a paper", RefusalsTest::small, ARGUMENT, OpeningsCabinet::readMoves, clear);
        Consumer<OpeningsCabinet> faulty = x -> {
            rich(x);
            Check.type(x, "Bb5 a6 (d6) Ba4 b5 Bb3 b5");
        };
        refused("readMoves with a fault", faulty, ARGUMENT, OpeningsCabinet::readMoves, clear);
        Consumer<OpeningsCabinet> full = x -> {
            played(x);
            Check.type(x, "e4");
        };
        refused("readMoves without room", full, ARGUMENT, OpeningsCabinet::readMoves, clear);
        Consumer<OpeningsCabinet> paper = x -> {
            rich(x);
            Check.type(x, "4k3/8/8/8/8/8/8/4K3 w - -");
        };
        refused("readPaper behind moves", paper, STATE, OpeningsCabinet::readPaper, clear);
    }

    // ---- the order of exceptions

    private static void thrown(String what, Consumer<OpeningsCabinet> ahead, Class<? extends Exception> due,
            Function<OpeningsCabinet, Object> call) {
        OpeningsCabinet x = new OpeningsCabinet();
        ahead.accept(x);
        Check.refuses(what, due, () -> call.apply(x));
    }

    private static void orderOfSettingUp() {
        Consumer<OpeningsCabinet> rich = RefusalsTest::rich;
        thrown("put: square, piece", x -> { }, INDEX, x -> x.put(64, 13));
        thrown("put: square, moves", rich, INDEX, x -> x.put(-1, 0));
        thrown("put: piece, moves", rich, ARGUMENT, x -> x.put(0, 13));
        thrown("put: square, piece, moves", rich, INDEX, x -> x.put(64, -1));
        thrown("setSide: rights, moves", rich, ARGUMENT, x -> x.setSide(true, 16));
        thrown("readPaper: text, moves", rich, ARGUMENT, OpeningsCabinet::readPaper);
        thrown("isPinned: square, not proper", RefusalsTest::improper, INDEX, x -> x.isPinned(64));
    }

    private static void orderOfMoves() {
        Consumer<OpeningsCabinet> improper = RefusalsTest::improper;
        thrown("moveFrom: not proper, move", improper, STATE, x -> x.moveFrom(-1));
        thrown("moveTo: not proper, move", improper, STATE, x -> x.moveTo(-1));
        thrown("moveBecomes: not proper, move", improper, STATE, x -> x.moveBecomes(999));
        thrown("writeMove: not proper, move", improper, STATE, x -> x.writeMove(-1));
        thrown("play: not proper, move", improper, STATE, x -> x.play(-1));
        thrown("play: 80 moves, move", RefusalsTest::played, STATE, x -> x.play(20));
        thrown("countMoves: depth, not proper", improper, ARGUMENT, x -> x.countMoves(0, true));
        thrown("countMoves: depth, not proper", improper, ARGUMENT, x -> x.countMoves(4, false));
    }

    private static void orderOfTexts() {
        thrown("type: bytes, room", RefusalsTest::typed, ARGUMENT, x -> x.type(0x2020202020202080L));
        thrown("type: bytes, room", RefusalsTest::typed, ARGUMENT, x -> x.type(0x1F));
        Consumer<OpeningsCabinet> faulty = x -> {
            improper(x);
            Check.type(x, "x");
        };
        thrown("readMoves: not proper, fault", faulty, STATE, OpeningsCabinet::readMoves);
        thrown("fault: not proper, fault", faulty, STATE, OpeningsCabinet::fault);
    }

    private static void orderOfShelves() {
        Consumer<OpeningsCabinet> improper = RefusalsTest::improper;
        Consumer<OpeningsCabinet> full = RefusalsTest::shelved;
        Consumer<OpeningsCabinet> both = x -> {
            shelved(x);
            x.put(4, 0);
        };
        for (Consumer<OpeningsCabinet> ahead : List.of(improper, full, both)) {
            thrown("addGame: shelf, state", ahead, INDEX, x -> x.addGame(2, 0, 1900, 1));
            thrown("addGame: shelf, result", ahead, INDEX, x -> x.addGame(-1, 3, 1900, 1));
            thrown("addGame: shelf, year", ahead, INDEX, x -> x.addGame(2, 0, 1799, 1));
            thrown("addGame: shelf, strength", ahead, INDEX, x -> x.addGame(2, 0, 1900, -1));
            thrown("addGame: result, state", ahead, ARGUMENT, x -> x.addGame(0, -1, 1900, 1));
            thrown("addGame: year, state", ahead, ARGUMENT, x -> x.addGame(1, 0, 2101, 1));
            thrown("addGame: strength, state", ahead, ARGUMENT, x -> x.addGame(0, 0, 1900, 3501));
            thrown("addGame: state", ahead, STATE, x -> x.addGame(0, 0, 1900, 1));
            thrown("countWith: shelf, result", ahead, INDEX, x -> x.countWith(2, 3));
            thrown("countYears: shelf, years", ahead, INDEX, x -> x.countYears(2, 1901, 1900));
            thrown("playMain: shelf, moves", ahead, INDEX, x -> x.playMain(2, 0));
            thrown("meanStrength: shelf, no game", ahead, INDEX, x -> x.meanStrength(2, true));
        }
        thrown("continuations: shelf, not proper", improper, INDEX, x -> x.continuations(2));
        thrown("continuationAt: not proper, shelf", improper, STATE, x -> x.continuationAt(2, 0));
        thrown("continuationAt: not proper, index", improper, STATE, x -> x.continuationAt(0, 99));
        thrown("continuationAt: not proper, shelf, index", improper, STATE, x -> x.continuationAt(-1, -1));
        thrown("gamesOf: not proper, shelf", improper, STATE, x -> x.gamesOf(2, 0));
        thrown("gamesOf: not proper, index", improper, STATE, x -> x.gamesOf(0, 99));
        thrown("gamesOf: not proper, shelf, index", improper, STATE, x -> x.gamesOf(-1, -1));
        thrown("playMain: shelf, not proper", improper, INDEX, x -> x.playMain(2, 1));
        thrown("playMain: moves, not proper", improper, ARGUMENT, x -> x.playMain(0, 81));
        thrown("playMain: shelf, moves, not proper", improper, INDEX, x -> x.playMain(-1, 0));
        thrown("gameLength: shelf, game", full, INDEX, x -> x.gameLength(2, 40));
        thrown("firstNew: shelf, game", full, INDEX, x -> x.firstNew(2, 40));
    }

    private static void orderOfTheRest() {
        thrown("ask: square, what", x -> { }, INDEX, x -> x.ask(64, 16));
        thrown("ask: square, what", x -> { }, INDEX, x -> x.ask(-1, -1));
        thrown("firstKey: not proper, no key", RefusalsTest::improper, STATE, OpeningsCabinet::firstKey);
        thrown("solve: kind, squares", x -> { }, ARGUMENT, x -> x.solve(6));
        thrown("solve: kind, squares", x -> { }, ARGUMENT, x -> x.solve(1));
        thrown("longest: kind, unsolved", x -> { }, ARGUMENT, x -> x.longest(6));
        thrown("longest: kind, unsolved", x -> { }, ARGUMENT, x -> x.longest(1));
    }
}
