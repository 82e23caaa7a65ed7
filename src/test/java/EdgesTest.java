import java.lang.reflect.InvocationTargetException;
import java.lang.reflect.Method;
import java.util.ArrayList;
import java.util.Arrays;
import java.util.LinkedHashMap;
import java.util.List;
import java.util.Map;
import java.util.TreeSet;

/**
 * Each call with all its arguments just inside and just outside of what is told, and at the ends of int, in any mix,
 * on an empty, a rich, a full and an OVER object: it answers as the plain model does, and both are alike behind it.
 */
public final class EdgesTest {
    /** Of each argument the least and the most that is as told. */
    private static final String CALLS = "person 1:5 1:9 1:9|personOf 0:5 0:5|change 0:5 1:2 1:9|remake 0:5 1:5|deed 0:5 0:15 1:9 -1:9"
        + "|deedOf 0:9 0:5|ends 1:16|anew|state 0:3|feed 0:0 1:8|rules|year|standing 0:4|leaves 0:5|on 0:16|until 0:9|overdue|falls 0:9"
        + "|graceFor 0:5|strengthFor 0:5|owe 0:5 0:5 0:99|owes 0:5 0:5|net 0:5|ring 0:5|payments|best 0:4|ith 0:4 0:3|ways 0:4"
        + "|life 0:4 0:1023|bars 0:4 0:1023|game 1:4|play 1:4|report 1:9 0:15 0:31 0:1|forget|span 0:3|liar|seed 0:0|lot|often 1:40 0:999"
        + "|prove 0:4|row 0:3 0:2|alterRow 0:3 0:2 0:9|judge|sheet 0:3 -1:4 0:40|write 0:3 0:39 0:127|item 0:3 0:4 0:39"
        + "|goAll 0:3 0:39 0:20|wouldBe 0:3 0:39 0:20|shelf 0:3 0:2 0:5|taken 0:3 0:14|act 0:3 0:3 0:9|trace 0:29|many 0:7|keep|again";

    private static final String RICH = "person 1 2 9|person 2 1 9|person 4 1 9|person 5 1 9|deed 1 0 3 -1|deed 0 1 2 0|deed 3 0 4 -1|deed 2 1 5 2"
        + "|deed 0 0 1 3|deed 1 5 1 2|deed 2 2 1 0|ends 14|owe 0 1 5|owe 1 2 7|owe 2 0 1|report 3 0 4 1|report 9 2 20 0|seed 77|year|keep|year|year"
        + "|owe 3 0 99|report 2 1 9 1|seed -5|prove 2|sheet 0 0 40|write 0 0 1|write 0 38 1|write 0 39 9|sheet 1 3 2|sheet 3 4 3|shelf 0 0 1"
        + "|shelf 1 1 1|shelf 3 0 3|act 3 3 10|feed 9 8";
    private static final String FULL = "person 1 1 1|person 2 2 2|person 3 3 3|person 4 4 4|person 5 5 5|person 1 9 9|deed 0 0 1 -1|deed 1 0 2 0"
        + "|deed 2 1 3 -1|deed 3 1 4 2|deed 4 2 5 -1|deed 5 3 6 -1|deed 5 15 7 -1|deed 0 2 8 1|deed 1 4 9 -1|deed 2 3 9 8|ends 16|report 1 0 9 1"
        + "|report 2 1 31 1|report 9 2 3 0|report 1 15 15 0|report 2 2 31 1|report 1 0 31 1|prove 4|shelf 3 0 5|shelf 0 0 2|act 0 3 5|sheet 3 0 40"
        + "|sheet 0 0 20|feed 0 8".concat("|feed 0 8".repeat(24)).concat("|feed 0 4|keep");
    private static final String OVER = "person 2 1 9|person 4 1 1|deed 0 0 3 -1|deed 1 0 3 -1|ends 3|sheet 0 0 3|shelf 0 0 0|prove 3|year|year|year";

    private final Map<String, Method> mine = methodsOf(LeftUndoes.class), plain = methodsOf(PlainModel.class);
    private LeftUndoes x;
    private PlainModel y;
    private int compared, looks, wrong;

    private static Map<String, Method> methodsOf(Class<?> of) {
        Map<String, Method> methods = new LinkedHashMap<>();
        for (Method m : of.getDeclaredMethods()) {
            if (java.lang.reflect.Modifier.isPublic(m.getModifiers())) methods.put(m.getName(), m);
        }
        return methods;
    }

    private static int answer(Object of, Map<String, Method> methods, String call, int... a) {
        Object[] arguments = new Object[a.length];
        for (int k = 0; k < a.length; k++) arguments[k] = call.equals("feed") && k == 0 ? (Object) (long) a[k] : (Object) a[k];
        try {
            return (Integer) methods.get(call).invoke(of, arguments);
        } catch (InvocationTargetException e) {
            if (e.getCause() instanceof PlainModel.Refused) return ((PlainModel.Refused) e.getCause()).why;
            throw new IllegalStateException(call + Arrays.toString(a), e.getCause());
        } catch (IllegalAccessException e) {
            throw new IllegalStateException(e);
        }
    }

    private void make(String script) {
        x = new LeftUndoes();
        y = new PlainModel();
        if (script.isEmpty()) return;
        for (String line : script.split("\\|")) {
            String[] parts = line.split(" ");
            int[] a = new int[parts.length - 1];
            for (int k = 0; k < a.length; k++) a[k] = Integer.parseInt(parts[k + 1]);
            same(parts[0], a);
        }
    }

    private void same(String call, int... a) {
        compared++;
        int got = answer(x, mine, call, a), due = answer(y, plain, call, a);
        if (got == due) return;
        wrong++;
        System.out.println(call + Arrays.toString(a) + " answered " + got + ", due is " + due);
    }

    /** Whether both look alike; it uses them up. */
    private void alike(String behind) {
        looks++;
        String got = Sight.of((call, a) -> answer(x, mine, call, a)), due = Sight.of((call, a) -> answer(y, plain, call, a));
        if (got.equals(due)) return;
        wrong++;
        System.out.println("behind " + behind + " it is\n  " + got + ", due is\n  " + due);
    }

    private static int[] edges(String range) {
        String[] ends = range.split(":");
        int least = Integer.parseInt(ends[0]), most = Integer.parseInt(ends[1]);
        TreeSet<Integer> edges = new TreeSet<>(List.of(Integer.MIN_VALUE, Integer.MAX_VALUE));
        for (int near = -1; near <= 1; near++) {
            edges.add(least + near);
            edges.add(most + near);
        }
        return edges.stream().mapToInt(k -> k).toArray();
    }

    private static List<int[]> mixes(String[] parts) {
        List<int[]> mixes = new ArrayList<>();
        mixes.add(new int[0]);
        for (int k = 1; k < parts.length; k++) {
            List<int[]> longer = new ArrayList<>();
            for (int[] mix : mixes) {
                for (int edge : edges(parts[k])) {
                    int[] more = Arrays.copyOf(mix, k);
                    more[k - 1] = edge;
                    longer.add(more);
                }
            }
            mixes = longer;
        }
        return mixes;
    }

    private void run(String script) {
        for (String call : CALLS.split("\\|")) {
            String[] parts = call.split(" ");
            make(script);
            int calls = 0;
            for (int[] mix : mixes(parts)) {
                same(parts[0], mix);
                // a look takes some 400 of the 512 calls that an object is good for
                if (++calls % 32 > 0) continue;
                alike(parts[0] + " up to " + Arrays.toString(mix));
                make(script);
            }
            alike(parts[0]);
        }
    }

    public static void main(String[] args) {
        EdgesTest test = new EdgesTest();
        for (String script : new String[] {"", RICH, FULL, OVER}) test.run(script);
        System.out.println(test.wrong == 0 ? test.compared + " answers at edges and " + test.looks + " looks are as the plain model's"
            : test.wrong + " are not as the plain model's");
        if (test.wrong != 0) System.exit(1);
    }
}
