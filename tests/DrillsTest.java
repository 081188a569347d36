/** Promises 58 and 59: the drill. */
public final class DrillsTest {
    public static void main(String[] args) {
        OpeningsCabinet x = new OpeningsCabinet();
        Class<java.util.NoSuchElementException> nothing = java.util.NoSuchElementException.class;
        Check.refuses("asked of nothing", nothing, x::asked);
        Check.refuses("answer to nothing", nothing, () -> x.answer(true));
        x.addGame(1, 0, 1900, 1);
        Check.refuses("the shelf 1 is not drilled", nothing, x::asked);
        x.addGame(0, 0, 1900, 1);
        x.addGame(0, 0, 1900, 1);
        x.addGame(0, 0, 1900, 1);
        Check.same("the lowest number", x.asked(), 0);
        Check.same("asked again", x.asked(), 0);
        // Count, game, answer, box, due number: 1: 0 right 1 due 3; 2: 1 wrong 0 due 3; 3: 2 right 1 due 5.
        step(x, 0, true, 1);
        step(x, 1, false, 0);
        step(x, 2, true, 1);
        // Games 0 and 1 are due at 3: game 1 has the lower box. 4: 1 wrong 0 due 5.
        step(x, 1, false, 0);
        // 5: 0 right 2 due 9.
        step(x, 0, true, 2);
        // Games 1 and 2 are due at 5: game 1 has the lower box. 6: 1 right 1 due 8; 7: 2 right 2 due 11.
        step(x, 1, true, 1);
        step(x, 2, true, 2);
        // 8: 1 right 2 due 12; 9: 0 right 3 due 17; 10: 2 right 3 due 18; 11: 1 right 3 due 19.
        step(x, 1, true, 2);
        step(x, 0, true, 3);
        step(x, 2, true, 3);
        step(x, 1, true, 3);
        // 12: 0 right 4 due 28; 13: 2 right 4 due 29; 14: 1 right 4 due 30; 15: 0 right 4 due 31, no box is above 4.
        step(x, 0, true, 4);
        step(x, 2, true, 4);
        step(x, 1, true, 4);
        step(x, 0, true, 4);
        // 16: 2 wrong 0 due 17; 17: 2 right 1 due 19.
        step(x, 2, false, 0);
        step(x, 2, true, 1);
        // A new game is due at 0.
        x.addGame(0, 0, 1900, 1);
        step(x, 3, false, 0);
        // Game 3 is due at 18 + 1 = 19 with the box 0, game 2 at 19 with the box 1.
        step(x, 3, true, 1);
        step(x, 2, true, 2);
        Check.end("DrillsTest");
    }

    private static void step(OpeningsCabinet x, int game, boolean isRight, int box) {
        Check.same("asked", x.asked(), game);
        Check.same("box", x.answer(isRight), box);
    }
}
