/**
 * All that can be seen of an object, as a text: what the calls that only ask tell, then the TAPE (by telling it),
 * and what is kept (by going back to it). Two objects with the same sight answer the same; it uses the object up.
 */
final class Sight {
    /** An object asked by the names of its calls, so that a model of it can be looked at, too. */
    interface Asked { int answer(String call, int... arguments); }

    private final Asked x;
    private final StringBuilder text = new StringBuilder();
    private int calls;

    private Sight(Asked x) {
        this.x = x;
    }

    static String of(LeftUndoes x) {
        return of((call, a) -> ask(x, call, a));
    }

    static String of(Asked x) {
        Sight sight = new Sight(x);
        sight.host();
        sight.world();
        sight.see("rules");
        sight.effects();
        if (sight.see("again") >= 0) sight.world();
        // a new object may be called 512 times: some hundred are left to those that made it
        if (sight.calls > 430) throw new IllegalStateException("a sight takes " + sight.calls + " calls");
        return sight.text.toString();
    }

    private static int ask(LeftUndoes x, String call, int... a) {
        switch (call) {
            case "many": return x.many(a[0]);
            case "state": return x.state(a[0]);
            case "standing": return x.standing(a[0]);
            case "personOf": return x.personOf(a[0], a[1]);
            case "deedOf": return x.deedOf(a[0], a[1]);
            case "owes": return x.owes(a[0], a[1]);
            case "span": return x.span(a[0]);
            case "liar": return x.liar();
            case "seed": return x.seed(a[0]);
            case "on": return x.on(a[0]);
            case "until": return x.until(a[0]);
            case "row": return x.row(a[0], a[1]);
            case "item": return x.item(a[0], a[1], a[2]);
            case "taken": return x.taken(a[0], a[1]);
            case "trace": return x.trace(a[0]);
            case "rules": return x.rules();
            case "again": return x.again();
            default: throw new IllegalArgumentException(call);
        }
    }

    private int see(String call, int... arguments) {
        calls++;
        int answer = x.answer(call, arguments);
        text.append(call.charAt(0)).append(call.length());
        for (int a : arguments) text.append('.').append(a);
        text.append('=').append(answer).append(' ');
        return answer;
    }

    /** What keep() keeps. */
    private void world() {
        for (int what = 0; what < 4; what++) see("state", what);
        for (int so = 0; so < 5; so++) see("standing", so);
        int z = see("seed", 0);
        see("seed", z);
        int people = see("many", 0), deeds = see("many", 2), loans = see("many", 7);
        for (int p = 0; p < people; p++) {
            for (int what = 0; what < 3; what++) see("personOf", p, what);
            for (int q = 0; q < people && loans > 0; q++) if (q != p) see("owes", p, q);
        }
        for (int d = 0; d < deeds; d++) {
            for (int what = 0; what < 6; what++) if (what != 4) see("deedOf", d, what);
        }
        effects();
        if (see("many", 3) == 0) return;
        for (int what = 0; what < 4; what++) see("span", what);
        see("liar");
    }

    /** What comes of THE RULES. */
    private void effects() {
        see("many", 1);
        for (int p = see("many", 0) - 1; p >= 0; p--) see("personOf", p, 5);
        for (int d = see("many", 2) - 1; d >= 0; d--) see("until", d);
        see("on", 16);
    }

    private void host() {
        see("many", 5);
        int rows = see("many", 4), bodies = see("many", 6);
        for (int k = 0; k < rows; k++) for (int what = 0; what < 3; what++) see("row", k, what);
        for (int k = 0; k < bodies; k++) see("trace", k);
        for (int s = 0; s < 4; s++) {
            for (int sort = 0; sort < 5; sort++) {
                if (see("item", s, sort, 39) == Bounds.OTHER) continue;
                for (int i = 0; i < 6; i++) see("item", s, sort, i);
                break;
            }
            for (int as : new int[] {2, 4, 10, 11, 12, 13, 14, 0}) {
                int held = see("taken", s, as);
                if (held >= 0 || held == Bounds.NOTHING) break;
            }
        }
    }
}
