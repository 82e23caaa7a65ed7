import java.lang.reflect.InvocationTargetException;
import java.lang.reflect.Method;
import java.util.LinkedHashMap;
import java.util.Map;

/** Long runs of calls, drawn by a fixed row of numbers, whose answers must be those of the plain model. */
public final class AgainstModelTest {
    private static final int RUNS = Integer.getInteger("runs", 260), CALLS = 512;

    /** Of each method how often it is drawn, and of each argument the least and the most that is as told. */
    private static final String METHODS = "person 6 1:5 1:9 1:9|personOf 8 0:5 0:5|change 3 0:5 1:2 1:9|remake 3 0:5 1:5"
        + "|deed 12 0:5 0:15 1:9 -1:9|deedOf 6 0:9 0:5|ends 2 1:16|anew 1|state 4 0:3"
        + "|text 9|feed 1 0:0 1:8|rules 1|year 4|standing 5 0:4|leaves 2 0:5|on 3 0:16|until 4 0:9|overdue 3|falls 6 0:9"
        + "|graceFor 2 0:5|strengthFor 2 0:5|owe 6 0:5 0:5 0:99|owes 2 0:5 0:5|net 2 0:5|ring 2 0:5|payments 2"
        + "|best 1 0:4|ith 1 0:4 0:3|ways 1 0:4|life 2 0:4 0:1023|bars 2 0:4 0:1023|game 1 1:4|play 1 1:4"
        + "|report 4 1:9 0:15 0:31 0:1|forget 1|span 3 0:3|liar 2|seed 1 -99999:99999|lot 3|often 1 1:40 0:200"
        + "|prove 2 0:4|row 3 0:3 0:2|alterRow 1 0:3 0:2 0:7|judge 3"
        + "|sheet 3 0:3 -1:4 0:40|write 8 0:3 0:39 -200:300|item 5 0:3 0:4 0:39|goAll 2 0:3 0:30 0:20|wouldBe 3 0:3 0:30 0:20"
        + "|shelf 3 0:3 0:2 0:5|taken 4 0:3 0:14|act 6 0:3 0:3 -50:50|trace 4 0:7|many 4 0:7|keep 1|again 1";

    private static long drawn;

    private static int draw(int below) {
        drawn = drawn * 6364136223846793005L + 1442695040888963407L;
        return (int) ((drawn >>> 33) % below);
    }

    private static int argument(String range) {
        String[] ends = range.split(":");
        int least = Integer.parseInt(ends[0]), most = Integer.parseInt(ends[1]);
        int luck = draw(100);
        if (luck < 2) return least - 1;
        if (luck < 4) return most + 1;
        if (luck < 5) return new int[] {Integer.MIN_VALUE, Integer.MAX_VALUE, -1 << 16, 1 << 16, 256, -129}[draw(6)];
        if (luck < 20) return least + Math.min(most - least, draw(3));
        return least + draw(most - least + 1);
    }

    private static String pick(String... of) { return of[draw(of.length)]; }

    private static String condition(int deep) {
        String text = pick("", "", "", "not ", "not not ");
        if (draw(4) == 0 && deep < 4) text += pick("(", " ( ") + condition(deep + 1) + pick(")", " )");
        else text += value() + pick("<", "=", ">", " < ") + value();
        if (draw(3) == 0 && deep < 5) text += pick(" and ", " or ", " and", "  or ") + condition(deep + 1);
        return text;
    }

    private static String value() {
        return pick("year ", "stands ", "grace ", "strength ", " number ", " " + draw(12), "0007", " " + draw(20000));
    }

    private static String rule() {
        String kind = pick("hand", "clasped", "forger", "twin", "slow", "heir", "hand");
        String what = pick("early " + draw(4), "late " + draw(4), "spare", "early " + draw(110), "late" + draw(9));
        return kind + (draw(3) > 0 ? " if " + condition(0) : "") + " " + what + pick(";", " ; ", ";");
    }

    private static String text() {
        StringBuilder text = new StringBuilder();
        int many = draw(10) == 0 ? 9 : draw(5);
        for (int k = 0; k < many; k++) text.append(many == 9 ? "hand spare;" : rule());
        if (text.length() > 0 && draw(3) == 0) {
            int at = draw(text.length());
            switch (draw(3)) {
                case 0: text.setLength(at); break;
                case 1: text.deleteCharAt(at); break;
                default: text.insert(at, pick("(", ")", ";", "a", "0", " ", "A", "if ", "\u00e9", "\n")); break;
            }
        }
        if (text.length() > 200) text.setLength(200);
        return text.toString();
    }

    private static Object answer(Object of, Map<String, Method> methods, String name, Object... arguments) throws Exception {
        try {
            return methods.get(name).invoke(of, arguments);
        } catch (InvocationTargetException e) {
            if (e.getCause() instanceof PlainModel.Refused) return ((PlainModel.Refused) e.getCause()).why;
            throw e;
        }
    }

    private static Map<String, Method> methodsOf(Class<?> of) {
        Map<String, Method> methods = new LinkedHashMap<>();
        for (Method m : of.getDeclaredMethods()) {
            if (java.lang.reflect.Modifier.isPublic(m.getModifiers())) methods.put(m.getName(), m);
        }
        return methods;
    }

    private final Map<String, Method> mine = methodsOf(LeftUndoes.class), plain = methodsOf(PlainModel.class);
    private final Map<String, int[]> counts = new LinkedHashMap<>();
    private final StringBuilder told = new StringBuilder();
    private LeftUndoes x;
    private PlainModel y;
    private int calls;

    /** Whether both answered the same. */
    private boolean same(String name, Object... arguments) throws Exception {
        calls++;
        Object got = answer(x, mine, name, arguments), due = answer(y, plain, name, arguments);
        told.append("\n  ").append(name).append(java.util.Arrays.toString(arguments)).append(" = ").append(got);
        int[] count = counts.computeIfAbsent(name, k -> new int[2]);
        count[(Integer) got >= 0 ? 0 : 1]++;
        if (got.equals(due)) return true;
        System.out.println(told + ", due is " + due);
        return false;
    }

    private boolean sameText() throws Exception {
        boolean right = true;
        String text = text();
        told.append("\n  # ").append(text);
        for (int at = 0; at < text.length() && right; at += 8) {
            long eight = 0;
            int n = Math.min(8, text.length() - at);
            for (int k = n - 1; k >= 0; k--) eight = eight << 8 | text.charAt(at + k);
            right = same("feed", eight, n);
        }
        return right && same("rules");
    }

    private boolean sameCall(String call) throws Exception {
        String[] parts = call.split(" ");
        if (parts[0].equals("text")) return sameText();
        Object[] arguments = new Object[parts.length - 2];
        for (int k = 0; k < arguments.length; k++) {
            int v = argument(parts[k + 2]);
            arguments[k] = parts[0].equals("feed") && k == 0 ? (Object) (drawn ^ drawn << 21) : (Object) v;
        }
        return same(parts[0], arguments);
    }

    private boolean run(int run) throws Exception {
        x = new LeftUndoes();
        y = new PlainModel();
        told.setLength(0);
        told.append("run ").append(run);
        drawn = run * 7919L + 17;
        calls = 0;
        java.util.List<String> urn = new java.util.ArrayList<>();
        for (String call : METHODS.split("\\|")) {
            for (int k = Integer.parseInt(call.split(" ")[1]); k > 0; k--) urn.add(call);
        }
        int people = draw(7), deeds = draw(11);
        for (int k = 0; k < people; k++) if (!sameCall("person 1 1:5 1:4 1:9")) return false;
        for (int k = 0; k < deeds; k++) if (!sameCall("deed 1 0:" + Math.max(0, people - 1) + " 0:5 1:9 -1:" + k / 2)) return false;
        while (calls < CALLS - 30) if (!sameCall(urn.get(draw(urn.size())))) return false;
        return true;
    }

    public static void main(String[] args) throws Exception {
        AgainstModelTest test = new AgainstModelTest();
        for (int run = 0; run < RUNS; run++) {
            if (!test.run(run)) {
                System.out.println("the class and the plain model are apart");
                System.exit(1);
            }
        }
        int without = 0;
        for (Map.Entry<String, int[]> count : test.counts.entrySet()) {
            if (count.getValue()[0] == 0) without++;
        }
        if (without > 0 || !test.mine.keySet().equals(test.plain.keySet()) || test.counts.size() != test.mine.size()) {
            System.out.println("not every call was answered in these runs");
            System.exit(1);
        }
        if (args.length > 0) test.counts.forEach((k, v) -> System.out.println(k + " " + v[0] + " " + v[1]));
        System.out.println(RUNS + " runs are as the plain model's");
    }
}
