import java.lang.reflect.InvocationTargetException;
import java.lang.reflect.Method;
import java.lang.reflect.Modifier;
import java.util.ArrayList;
import java.util.Arrays;
import java.util.HashMap;
import java.util.List;
import java.util.Map;
import java.util.Random;

/** A cabinet and an oracle that get the same calls, drawn with a fixed seed, and must answer the same. */
abstract class Duo {
    /** The two answered differently. */
    static final class Differs extends RuntimeException {
        private static final long serialVersionUID = 1L;

        Differs(String message) {
            super(message);
        }
    }

    private static final int MOST_CALLS = 512;
    private static final Map<String, Method> REAL = methods(OpeningsCabinet.class);
    private static final Map<String, Method> PLAIN = methods(Oracle.class);

    final Random random;
    final Oracle plain = new Oracle();
    final List<String> log = new ArrayList<>();
    private final OpeningsCabinet real = new OpeningsCabinet();

    Duo(long seed) {
        random = new Random(seed);
    }

    /** Makes one step of calls. */
    abstract void step();

    /** Runs up to the last call; tells whether the two answered the same. */
    final boolean isSame() {
        try {
            while (!isOver()) {
                step();
            }
            return true;
        } catch (Differs differs) {
            System.out.println(differs.getMessage());
            return false;
        }
    }

    private static Map<String, Method> methods(Class<?> face) {
        Map<String, Method> all = new HashMap<>();
        for (Method m : face.getDeclaredMethods()) {
            if (Modifier.isPublic(m.getModifiers())) {
                all.put(m.getName(), m);
            }
        }
        return all;
    }

    final boolean isOver() {
        return log.size() >= MOST_CALLS;
    }

    /** Makes a call of both; tells the answer or the name of the exception. */
    final String call(String name, Object... args) {
        if (isOver()) {
            return "over";
        }
        String due = answer(PLAIN.get(name), plain, args);
        String got = answer(REAL.get(name), real, args);
        log.add(name + Arrays.toString(args) + " = " + due);
        if (!got.equals(due)) {
            throw new Differs(String.join("\n", log) + "\nbut the cabinet answered " + got);
        }
        return due;
    }

    private static String answer(Method m, Object on, Object[] args) {
        try {
            return String.valueOf(m.invoke(on, args));
        } catch (InvocationTargetException e) {
            return e.getCause().getClass().getSimpleName();
        } catch (IllegalAccessException e) {
            throw new AssertionError(e);
        }
    }

    /** Any call with any numbers, but for the dear ones. */
    final void anything() {
        List<String> names = new ArrayList<>(PLAIN.keySet());
        names.removeAll(List.of("solve", "countMoves", "forcesMate", "keyCount", "firstKey"));
        names.sort(null);
        String name = names.get(random.nextInt(names.size()));
        if (name.equals("newBoard") && chance(80)) {
            return;
        }
        Class<?>[] types = PLAIN.get(name).getParameterTypes();
        Object[] args = new Object[types.length];
        for (int i = 0; i < args.length; i++) {
            if (types[i] == boolean.class) {
                args[i] = chance(50);
            } else if (types[i] == long.class) {
                args[i] = chance(20) ? random.nextLong() : (long) (32 + upTo(97)) << 8 * upTo(6);
            } else {
                int[] odd = {Integer.MIN_VALUE, Integer.MAX_VALUE, -1, 64, 256, -64};
                args[i] = chance(20) ? odd[random.nextInt(odd.length)] : upTo(70) - 3;
            }
        }
        call(name, args);
    }

    final boolean chance(int percent) {
        return random.nextInt(100) < percent;
    }

    final int upTo(int most) {
        return random.nextInt(most + 1);
    }

    final List<Oracle.Step> moves() {
        return plain.isProper() ? Oracle.moves(plain.now()) : List.of();
    }

    final void type(String text) {
        for (int start = 0; start < text.length(); start += 8) {
            call("type", Check.packed(text.substring(start, Math.min(start + 8, text.length()))));
        }
    }

    /** Takes the board of a position, if there is another one or a game, and reads its paper. */
    final void read(Oracle.Place p) {
        if (plain.now().files != p.files || plain.now().ranks != p.ranks) {
            call("newBoard", p.files, p.ranks);
        } else if (plain.madeCount() > 0) {
            call("startHere");
        }
        call("clearText");
        type(Oracle.paper(p));
        call("readPaper");
    }

    /** Runs a kind of duo with some seeds. */
    static void run(String name, int runs, java.util.function.LongFunction<Duo> maker) {
        for (int seed = 0; seed < runs; seed++) {
            if (!maker.apply(seed).isSame()) {
                System.out.println(name + ": wrong with the seed " + seed);
                System.exit(1);
            }
        }
        System.out.println(name + ": " + runs + " runs answered the same");
    }
}
