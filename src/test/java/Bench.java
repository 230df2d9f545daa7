import java.lang.reflect.InvocationTargetException;
import java.lang.reflect.Method;
import java.nio.charset.StandardCharsets;
import java.util.ArrayList;
import java.util.Arrays;
import java.util.Comparator;
import java.util.List;

/**
 * What the tests of edges share: answers that are due, texts on the tape, and the run of all tests of a class.
 * They extend it, as nothing can be imported from a class without a package.
 */
abstract class Bench {
    static final int LEAST = Integer.MIN_VALUE;
    static final int MOST = Integer.MAX_VALUE;
    static final int NO_ANSWER = -1000000000;
    static final int NOT_THERE = -2000000000;
    static final int EAST = 0;
    static final int NORTH = 1;
    static final int SCALE = 2;
    static final int TURN = 3;
    static final int LIGHT = 4;
    static final int BEND = 5;

    private static String test = "";
    private static int checked = 0;
    private static int wrong = 0;

    /** The tests of a class, by name: its methods whose names begin with a promise's number. */
    static List<Method> testsOf(Class<?> tests) {
        List<Method> all = new ArrayList<>();
        for (Method m : tests.getDeclaredMethods()) {
            if (m.getName().matches("promise\\d\\d_\\w+")) {
                all.add(m);
            }
        }
        all.sort(Comparator.comparing(Method::getName));
        return all;
    }

    /** Runs every test of a class, and ends the program with 1 if an answer was not the one that is due. */
    static void runAll(Class<?> tests) throws IllegalAccessException {
        List<Method> all = testsOf(tests);
        for (Method m : all) {
            test = m.getName();
            int before = checked;
            try {
                m.invoke(null);
            } catch (InvocationTargetException e) {
                wrong++;
                System.out.println(test + ": threw " + e.getCause());
            }
            if (checked == before) {
                wrong++;
                System.out.println(test + ": asks nothing");
            }
        }
        System.out.println(wrong == 0 ? all.size() + " tests, " + checked + " answers, all as due"
                : wrong + " answers are not as due");
        if (wrong != 0) {
            System.exit(1);
        }
    }

    static void due(long got, long want) {
        due("", got, want);
    }

    static void due(boolean got, boolean want) {
        due("", got ? 1 : 0, want ? 1 : 0);
    }

    static void due(String with, boolean got, boolean want) {
        due(with, got ? 1 : 0, want ? 1 : 0);
    }

    static void due(String with, long got, long want) {
        checked++;
        if (got != want) {
            wrong++;
            System.out.println(test + ", line " + line() + (with.isEmpty() ? "" : ", with " + with) + ": answered " + got
                    + ", due is " + want);
        }
    }

    private static int line() {
        return StackWalker.getInstance().walk(frames ->
                frames.filter(f -> !f.getClassName().equals("Bench")).findFirst().map(f -> f.getLineNumber()).orElse(0));
    }

    /** Puts a text behind what the tape has, and nothing behind the text. */
    static void tape(BlackSun b, String text) {
        int before = b.count(7);
        byte[] bytes = Arrays.copyOf(text.getBytes(StandardCharsets.ISO_8859_1), (text.length() + 19) / 20 * 20);
        for (int at = 0; at < bytes.length; at += 20) {
            int[] n = new int[5];
            for (int i = 0; i < 20; i++) {
                n[i / 4] = n[i / 4] << 8 | bytes[at + i] & 255;
            }
            b.feed(n[0], n[1], n[2], n[3], n[4]);
        }
        b.end(before + text.length());
    }

    static int way(BlackSun b, String text) {
        tape(b, text);
        return b.way();
    }

    static int fault(int place, int why) {
        return -2 - (1 + 8 * place + why);
    }

    static void faulty(String text, int place, int why) {
        due("'" + text + "'", way(new BlackSun(), text), fault(place, why));
    }

    static void fine(String text) {
        due("'" + text + "'", way(new BlackSun(), text), 0);
    }

    /** Two stars, (1, 0) and (0, 2), that light draws by 40 and 20; plates 0 dark, 1 night, 2 check, of island 0. */
    static BlackSun small() {
        BlackSun b = new BlackSun();
        b.star(1, 0, 5);
        b.star(0, 2, 50);
        b.plate(0, 0, 10);
        b.plate(0, 1, 20);
        b.plate(0, 2, 30);
        return b;
    }

    /** As small, with ways of one text each. */
    static BlackSun small(String... ways) {
        BlackSun b = small();
        for (String text : ways) {
            way(b, text);
        }
        return b;
    }

    /**
     * All that there can be: thirty stars at (1, 0), sixteen dark plates, of island p % 4, a hundred images of 20, 0,
     * each of another star and plate, by hand i % 8, and ten ways, all "fit light" but for the first.
     */
    static BlackSun crowd(String firstWay) {
        BlackSun b = new BlackSun();
        for (int i = 0; i < 30; i++) {
            b.star(1, 0, i);
        }
        for (int p = 0; p < 16; p++) {
            b.plate(p % 4, 0, 50);
        }
        for (int i = 0; i < 100; i++) {
            b.image(i % 16, i % 30, i % 8, 20, 0);
        }
        for (int i = 0; i < 10; i++) {
            way(b, i == 0 ? firstWay : "fit light");
        }
        return b;
    }

    static void dueCounts(BlackSun b, int... want) {
        for (int what = 0; what < want.length; what++) {
            due("count " + what, b.count(what), want[what]);
        }
    }
}
