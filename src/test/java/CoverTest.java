import java.lang.reflect.Method;

/** Every promise has tests of its edges, each with the promise's number in its name, in the class for that number. */
public final class CoverTest {
    private static final int PROMISES = 41;
    private static final Class<?>[] EDGES = {Edges01To10Test.class, Edges11To12Test.class, Edges13To18Test.class,
        Edges19To26Test.class, Edges27To33Test.class, Edges34To41Test.class};

    public static void main(String[] args) {
        int[] tests = new int[PROMISES + 1];
        int wrong = 0;
        int all = 0;
        for (Class<?> edges : EDGES) {
            String name = edges.getSimpleName();
            int first = Integer.parseInt(name.substring(5, 7));
            int last = Integer.parseInt(name.substring(9, 11));
            for (Method m : Bench.testsOf(edges)) {
                int promise = Integer.parseInt(m.getName().substring(7, 9));
                all++;
                if (promise < first || promise > last) {
                    wrong++;
                    System.out.println(m.getName() + " stands in " + name);
                } else {
                    tests[promise]++;
                }
            }
        }
        for (int promise = 1; promise <= PROMISES; promise++) {
            if (tests[promise] == 0) {
                wrong++;
                System.out.println("promise " + promise + " has no test of its edges");
            }
        }
        System.out.println(wrong == 0 ? all + " tests of edges, some for each promise" : wrong + " things are not as they should be");
        if (wrong != 0) {
            System.exit(1);
        }
    }
}
