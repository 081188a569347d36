import java.util.NoSuchElementException;

/** The bounds of section 12 and of promises 58 and 59: no game, one, 40, the box 0 and the box 4, equal numbers. */
public final class BoundsDrillsTest {
    private static final Class<NoSuchElementException> NOTHING = NoSuchElementException.class;

    public static void main(String[] args) {
        noGames();
        oneGame();
        boxesUpToFour();
        leastDueNumber();
        lowestBox();
        lowestNumber();
        fullShelf();
        newGames();
        gamesOfTheOtherShelf();
        Check.end("BoundsDrillsTest");
    }

    private static OpeningsCabinet withGames(int number) {
        OpeningsCabinet x = new OpeningsCabinet();
        for (int game = 0; game < number; game++) {
            x.addGame(0, 0, 1900, 1);
        }
        return x;
    }

    /** Asks, and answers for the game that is due. */
    private static void step(OpeningsCabinet x, int game, boolean isRight, int box) {
        Check.same("asked", x.asked(), game);
        Check.same("box", x.answer(isRight), box);
    }

    /** "Throws NoSuchElementException if the shelf 0 is empty": at first, with games on the shelf 1, on a new board. */
    private static void noGames() {
        OpeningsCabinet x = new OpeningsCabinet();
        Check.refuses("asked", NOTHING, x::asked);
        Check.refuses("a right answer", NOTHING, () -> x.answer(true));
        Check.refuses("a wrong answer", NOTHING, () -> x.answer(false));
        x.addGame(1, 0, 1900, 1);
        Check.refuses("asked with the shelf 1", NOTHING, x::asked);
        Check.refuses("an answer with the shelf 1", NOTHING, () -> x.answer(true));
        // The first games of the shelf 0 are due at 0, whatever was refused before.
        x.addGame(0, 0, 1900, 1);
        x.addGame(0, 0, 1900, 1);
        step(x, 0, true, 1);
        step(x, 1, false, 0);
        step(x, 1, true, 1);
        x.newBoard(4, 4);
        Check.refuses("asked on a new board", NOTHING, x::asked);
        Check.refuses("an answer on a new board", NOTHING, () -> x.answer(true));
    }

    /** One game is asked always, whatever was answered. */
    private static void oneGame() {
        OpeningsCabinet x = withGames(1);
        boolean[] answers = {true, true, false, false, true, true, true, true, true, true, false, true};
        int[] boxes = {1, 2, 0, 0, 1, 2, 3, 4, 4, 4, 0, 1};
        for (int i = 0; i < answers.length; i++) {
            step(x, 0, answers[i], boxes[i]);
        }
    }

    /** "its box becomes 1 more, but at most 4, otherwise 0; its due number becomes the count plus 2 to the power". */
    private static void boxesUpToFour() {
        // Beside the game 0 stands one that is answered wrong again and again: due at the count plus 1.
        for (int right = 1; right <= 6; right++) {
            OpeningsCabinet x = withGames(1);
            for (int i = 1; i <= right; i++) {
                step(x, 0, true, Math.min(i, 4));
            }
            // Its due number is then right + 2 to the power of its box.
            int due = right + (1 << Math.min(right, 4));
            x.addGame(0, 0, 1900, 1);
            int count = right;
            int asked = x.asked();
            // The new game is due at 0, and behind its n-th wrong answer at the count plus 1.
            while (asked == 1 && count < 60) {
                Check.same("box of a wrong answer", x.answer(false), 0);
                count++;
                asked = x.asked();
            }
            Check.same("wrong answers until the game is asked again behind " + right, count, due);
            step(x, 0, false, 0);
            step(x, 1, true, 1);
        }
    }

    /** "the one with the least due number". */
    private static void leastDueNumber() {
        OpeningsCabinet x = withGames(3);
        // Due at 1 + 2, 2 + 2, 3 + 1: the boxes do not count before the due numbers.
        step(x, 0, true, 1);
        step(x, 1, true, 1);
        step(x, 2, false, 0);
        // 3 stands ahead of both 4, though its box is higher: then due at 4 + 4.
        step(x, 0, true, 2);
        // The games 1 and 2 are due at 4, the lower box first: due at 5 + 1, then at 6 + 4.
        step(x, 2, false, 0);
        step(x, 1, true, 2);
        // The game 2 is due at 6, then, with the game 0, at 8: its box is lower. Then at 8 + 2, the game 0 at 9 + 1.
        step(x, 2, false, 0);
        step(x, 2, true, 1);
        step(x, 0, false, 0);
        step(x, 0, true, 1);
    }

    /** "of several the one with the lowest box", though its number is higher. */
    private static void lowestBox() {
        OpeningsCabinet x = withGames(2);
        step(x, 0, true, 1);
        step(x, 1, false, 0);
        // Both are due at 3.
        step(x, 1, false, 0);
        // The game 0 is due at 3, the game 1 at 4.
        step(x, 0, false, 0);
        // The game 1 at 4, the game 0 at 5.
        step(x, 1, false, 0);
    }

    /** "of these the one with the lowest number": at first, and with equal due numbers and boxes later. */
    private static void lowestNumber() {
        OpeningsCabinet x = withGames(3);
        Check.same("at first", x.asked(), 0);
        Check.same("asking changes nothing", x.asked(), 0);
        step(x, 0, false, 0);
        step(x, 1, false, 0);
        step(x, 2, false, 0);
        step(x, 0, false, 0);
        // Merged games have the box 0 and the due number 0 all: the lowest of them is asked.
        OpeningsCabinet y = withGames(1);
        step(y, 0, true, 1);
        for (String move : new String[] {"a3", "b3"}) {
            Check.moves(y, move);
            y.addGame(1, 0, 1900, 1);
            y.takeBack();
        }
        Check.same("came", y.merge(), 2);
        step(y, 1, true, 1);
        step(y, 2, true, 1);
        step(y, 0, true, 2);
    }

    /** All games of a full shelf are asked, one behind the other. */
    private static void fullShelf() {
        OpeningsCabinet x = withGames(40);
        for (int box = 1; box <= 2; box++) {
            for (int game = 0; game < 40; game++) {
                step(x, game, true, box);
            }
        }
        Check.same("the first one again", x.asked(), 0);
    }

    /** "Each game ... has a box, 0 at first, and a due number, 0 at first", whenever it is added. */
    private static void newGames() {
        OpeningsCabinet x = withGames(1);
        step(x, 0, true, 1);
        x.addGame(0, 0, 1900, 1);
        step(x, 1, true, 1);
        x.addGame(0, 0, 1900, 1);
        step(x, 2, false, 0);
        // Due at 1 + 2, 2 + 2, 3 + 1.
        step(x, 0, true, 2);
        step(x, 2, true, 1);
        step(x, 1, true, 2);
    }

    /** The shelf 1 has no drill, and adding to it changes nothing. */
    private static void gamesOfTheOtherShelf() {
        OpeningsCabinet x = withGames(2);
        step(x, 0, true, 1);
        x.addGame(1, 0, 1900, 1);
        Check.same("asked", x.asked(), 1);
        step(x, 1, true, 1);
        // The game of the shelf 1 is like those of the shelf 0, and is left out.
        Check.same("came", x.merge(), 0);
        step(x, 0, true, 2);
        step(x, 1, true, 2);
    }
}
