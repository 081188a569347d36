import java.util.List;
import java.util.concurrent.Callable;

/** Section 13: a call that throws an exception changes nothing, but for the text of readMoves() and readPaper(). */
public final class RefusalsTest {
    public static void main(String[] args) {
        OpeningsCabinet x = new OpeningsCabinet();
        Check.moves(x, "e4 e5 (c5) Nf3");
        x.addGame(0, 0, 1900, 1);
        x.addGame(1, 2, 1950, 2000);
        x.ask(28, 13);
        x.answer(true);
        Check.type(x, "Nc6 Bb5");
        String before = told(x);
        List<Callable<?>> calls = List.of(
                () -> x.newBoard(3, 8), () -> x.newBoard(8, 9), () -> x.put(0, 0), () -> x.put(-1, 0),
                () -> x.setSide(true, 0), () -> x.setSide(true, 99), () -> x.pieceAt(64), () -> x.isAttacked(64, true),
                () -> x.isPinned(64), () -> x.outputByte(99), () -> x.isOpenFile(8), () -> x.moveFrom(99),
                () -> x.moveTo(99), () -> x.moveBecomes(99), () -> x.writeMove(99), () -> x.play(99),
                () -> x.countMoves(4, true), () -> x.type(0x3131FFL), () -> x.addGame(2, 0, 1900, 1),
                () -> x.addGame(0, 0, 1, 1), () -> x.gameCount(2), () -> x.gameLength(0, 1), () -> x.countWith(0, 3),
                () -> x.countYears(0, 2, 1), () -> x.continuationAt(0, 9), () -> x.gamesOf(0, 9),
                () -> x.playMain(0, 81), () -> x.firstNew(0, 9), () -> x.ask(64, 0), () -> x.ask(0, 16),
                () -> x.patternCount(2), x::firstKey, () -> x.solve(2), () -> x.solve(9), x::endingValue,
                () -> x.longest(2), () -> x.meanLength(2), () -> x.shareWon(-1));
        for (Callable<?> call : calls) {
            String thrown = Check.thrownBy(call);
            Check.same(thrown + " is thrown", thrown.endsWith("Exception"), true);
            Check.same("what stands behind " + thrown, told(x), before);
        }
        Check.refuses("a paper behind moves", IllegalArgumentException.class, x::readPaper);
        Check.same("the text is empty then, all else is as it was", told(x), before.replace("text 7", "text 0"));
        Check.type(x, "Nc6 Bb5 Bb5");
        Check.refuses("a faulty text", IllegalArgumentException.class, x::readMoves);
        Check.same("the text is empty then, all else is as it was", told(x), before.replace("text 7", "text 0"));
        Check.end("RefusalsTest");
    }

    /** What can be asked without a change, and the text by its length, as it is typed again. */
    private static String told(OpeningsCabinet x) {
        StringBuilder all = new StringBuilder();
        int length = x.type(0);
        all.append("text ").append(length).append(' ');
        all.append(length == 0 ? "" : x.fault()).append(' ');
        all.append(Check.paper(x)).append(' ').append(x.madeCount()).append(' ').append(x.repetitions()).append(' ');
        all.append(x.variationMoves()).append(' ').append(x.holds()).append(' ').append(x.asked()).append(' ');
        for (int shelf = 0; shelf < 2; shelf++) {
            all.append(x.gameCount(shelf)).append(' ').append(x.positionCount(shelf)).append(' ');
            all.append(x.count(shelf)).append(' ').append(x.patternCount(shelf)).append(' ');
            all.append(x.meanStrength(shelf, false)).append(' ').append(x.continuations(shelf)).append(' ');
        }
        return all.toString().replace("text 0  ", "text 0 -1 ");
    }
}
