import java.util.ArrayList;
import java.util.Arrays;
import java.util.List;
import java.util.function.ToIntFunction;
import java.util.function.Predicate;
import java.util.regex.Matcher;
import java.util.regex.Pattern;

/**
 * The document told a second time, slowly and with the whole Java library, by nothing that the class does it with:
 * DEEDS are objects, PLANS are replayed from their beginning, SHEETS are Java's own arrays, refusals are thrown.
 */
public final class PlainModel {
    private static final String[] KINDS = {"hand", "clasped", "forger", "twin", "slow", "heir"};

    /** The KINDS that each KIND is, itself first. */
    private static final List<List<Integer>> LINES = List.of(List.of(0), List.of(1, 0), List.of(2, 0),
        List.of(3, 2, 0), List.of(4, 0), List.of(5, 4, 0));

    static final class Refused extends RuntimeException {
        private static final long serialVersionUID = 1L;
        final int why;
        Refused(int why) { this.why = why; }
    }

    static final class Parted extends RuntimeException {
        private static final long serialVersionUID = 1L;
    }

    record Facts(int year, int stands, int grace, int strength, int number) { }
    record Rule(int kind, Predicate<Facts> when, String what, int years) { }
    record Report(int weight, int year, int by, int was) { }

    static final class Person {
        int kind, grace, strength;
        Person(int kind, int grace, int strength) { this.kind = kind; this.grace = grace; this.strength = strength; }

        int term() {
            switch (KINDS[kind]) {
                case "forger": return 2 * grace;
                case "twin": return 2 * grace - 1;
                case "slow": return grace + 2;
                case "heir": return grace + 11;
                default: return grace;
            }
        }

        int pull(int year) {
            switch (KINDS[kind]) {
                case "clasped": return year % 3 == 2 ? 0 : strength;
                case "twin": return strength + 1;
                case "slow": return strength / 2;
                case "heir": return year < 9 ? strength / 2 : 9;
                default: return strength;
            }
        }
    }

    enum How { OPEN, STANDS, UNDONE, FELL, FAILED }

    static final class Deed {
        int whose, year, weight, need;
        How how = How.OPEN;
        Deed(int whose, int year, int weight, int need) {
            this.whose = whose; this.year = year; this.weight = weight; this.need = need;
        }
    }

    /** What is kept. */
    static final class World {
        int year = 0, end = 12, score = 0, z = 1;
        List<Person> people = new ArrayList<>();
        List<Deed> deeds = new ArrayList<>();
        List<Rule> rules = new ArrayList<>();
        List<Report> reports = new ArrayList<>();
        int[][] owed = new int[6][6];

        World twin() {
            World w = new World();
            w.year = year; w.end = end; w.score = score; w.z = z;
            for (Person p : people) w.people.add(new Person(p.kind, p.grace, p.strength));
            for (Deed d : deeds) {
                Deed e = new Deed(d.whose, d.year, d.weight, d.need);
                e.how = d.how;
                w.deeds.add(e);
            }
            w.rules.addAll(rules);
            w.reports.addAll(reports);
            for (int p = 0; p < 6; p++) w.owed[p] = owed[p].clone();
            return w;
        }

        boolean over() { return year >= end; }
        int due(Deed d) { return d.year + people.get(d.whose).term(); }
        boolean isOverdue(Deed d, int when) { return d.how == How.STANDS && when > due(d); }

        int stands(int p) {
            return deeds.stream().filter(d -> d.whose == p && d.how == How.STANDS).mapToInt(d -> d.weight).sum();
        }

        int choice(int p) {
            Person one = people.get(p);
            Facts facts = new Facts(year, stands(p), one.grace, one.strength, p);
            int latest = year;
            for (Rule rule : rules) {
                if (!LINES.get(one.kind).contains(rule.kind) || !rule.when.test(facts)) continue;
                latest = rule.what.equals("early") ? year + rule.years : rule.what.equals("late") ? year - rule.years : -1000;
                break;
            }
            int found = 10;
            for (int d = deeds.size() - 1; d >= 0; d--) {
                Deed deed = deeds.get(d);
                if (deed.whose != p || deed.how != How.STANDS || deed.weight > one.pull(year) || due(deed) > latest) continue;
                if (found == 10 || due(deed) <= due(deeds.get(found))) found = d;
            }
            return found;
        }

        void undo(int d) {
            deeds.get(d).how = How.UNDONE;
            boolean more = true;
            while (more) {
                more = false;
                for (Deed e : deeds) {
                    if (e.how != How.STANDS || e.need < 0) continue;
                    How its = deeds.get(e.need).how;
                    if (its == How.UNDONE || its == How.FELL) { e.how = How.FELL; more = true; }
                }
            }
        }

        int go(int act) {
            for (Deed d : deeds) {
                if (d.year != year || d.how != How.OPEN) continue;
                d.how = d.need < 0 || deeds.get(d.need).how == How.STANDS ? How.STANDS : How.FAILED;
            }
            for (int p = 0; p < people.size(); p++) {
                if (act == p + 1) continue;
                int d = choice(p);
                if (d < 10) undo(d);
            }
            int worth = 0;
            for (Deed d : deeds) if (d.how == How.STANDS && !isOverdue(d, year)) worth += d.weight;
            year++;
            score += worth;
            return worth;
        }

        int goRest() {
            int worth = 0;
            while (!over()) worth += go(0);
            return worth;
        }

        int set(How how) {
            int set = 0;
            for (int d = 0; d < deeds.size(); d++) if (deeds.get(d).how == how) set |= 1 << d;
            return set;
        }

        int draw() {
            z = z * 1103515245 + 12345;
            return (z >>> 16) % (people.size() + 1);
        }

        int net(int p) {
            int sum = 0;
            for (int q = 0; q < 6; q++) sum += owed[q][p] - owed[p][q];
            return sum;
        }
    }

    private World now = new World();
    private World kept = null;
    private final List<Integer> tape = new ArrayList<>();
    private final List<int[]> rows = new ArrayList<>();
    private final Object[] sheets = new Object[4];
    private final Object[] shelves = new Object[4];
    private List<Integer> trace = new ArrayList<>();

    private static void need(boolean right, int why) { if (!right) throw new Refused(why); }
    private static boolean in(int v, int least, int most) { return least <= v && v <= most; }
    private Person one(int p) { need(in(p, 0, now.people.size() - 1), -1); return now.people.get(p); }
    private Deed aDeed(int d) { need(in(d, 0, now.deeds.size() - 1), -1); return now.deeds.get(d); }

    public int person(int kind, int grace, int strength) {
        need(in(kind, 1, 5) && in(grace, 1, 9) && in(strength, 1, 9), -1);
        need(now.people.size() < 6, -2);
        now.people.add(new Person(kind, grace, strength));
        return now.people.size() - 1;
    }

    public int personOf(int p, int what) {
        Person x = one(p);
        need(in(what, 0, 5), -1);
        return new int[] {x.kind, x.grace, x.strength, now.stands(p), x.pull(now.year), now.choice(p)}[what];
    }

    public int change(int p, int what, int v) {
        Person x = one(p);
        need(in(what, 1, 2) && in(v, 1, 9), -1);
        int was = what == 1 ? x.grace : x.strength;
        if (what == 1) x.grace = v; else x.strength = v;
        return was;
    }

    public int remake(int p, int kind) {
        Person x = one(p);
        need(in(kind, 1, 5), -1);
        int was = x.kind;
        x.kind = kind;
        return was;
    }

    public int deed(int p, int year, int weight, int need) {
        one(p);
        need(in(year, 0, 15) && in(weight, 1, 9) && in(need, -1, now.deeds.size() - 1), -1);
        need(now.deeds.size() < 10, -2);
        need(year >= now.year, -4);
        now.deeds.add(new Deed(p, year, weight, need));
        return now.deeds.size() - 1;
    }

    public int deedOf(int d, int what) {
        Deed x = aDeed(d);
        need(in(what, 0, 5), -1);
        return new int[] {x.whose, x.year, x.weight, x.need, x.how.ordinal(), now.due(x)}[what];
    }

    public int ends(int v) {
        need(in(v, 1, 16), -1);
        need(v >= now.year, -4);
        int was = now.end;
        now.end = v;
        return was;
    }

    public int anew() {
        int was = now.year;
        now.year = 0;
        now.score = 0;
        for (Deed d : now.deeds) d.how = How.OPEN;
        return was;
    }

    public int state(int what) {
        need(in(what, 0, 3), -1);
        return new int[] {now.year, now.end, now.score, now.over() ? 1 : 0}[what];
    }

    public int feed(long eight, int n) {
        need(in(n, 1, 8), -1);
        need(tape.size() + n <= 200, -2);
        for (int k = 0; k < n; k++) {
            tape.add((int) (eight & 0xff));
            eight >>= 8;
        }
        return tape.size();
    }

    // ---- THE RULES, from a text

    private static final class Reading {
        final String text;
        final List<String> tokens = new ArrayList<>();
        final List<Integer> places = new ArrayList<>();
        int at = 0;

        Reading(String text) {
            this.text = text;
            Matcher m = Pattern.compile("[a-z]+|[0-9]+|[^ ]", Pattern.DOTALL).matcher(text);
            while (m.find()) { tokens.add(m.group()); places.add(m.start()); }
            tokens.add("");
            places.add(text.length());
        }

        String look() { return tokens.get(at); }
        Refused fault() { return new Refused(-100 - places.get(at)); }
        boolean meets(String token) { if (look().equals(token)) { at++; return true; } return false; }
        void must(String token) { if (!meets(token)) throw fault(); }

        int number(int digits, int most) {
            String t = look();
            if (!t.matches("[0-9]+") || t.length() > digits || Integer.parseInt(t) > most) throw fault();
            at++;
            return Integer.parseInt(t);
        }

        List<Rule> all() {
            List<Rule> rules = new ArrayList<>();
            while (!look().isEmpty()) {
                int kind = Arrays.asList(KINDS).indexOf(look());
                if (kind < 0 || rules.size() == 8) throw fault();
                at++;
                Predicate<Facts> when = meets("if") ? any(0) : f -> true;
                String what = look();
                if (!List.of("early", "late", "spare").contains(what)) throw fault();
                at++;
                int years = what.equals("spare") ? 0 : number(4, 99);
                must(";");
                rules.add(new Rule(kind, when, what, years));
            }
            return rules;
        }

        Predicate<Facts> any(int open) {
            Predicate<Facts> x = every(open);
            while (meets("or")) x = x.or(every(open));
            return x;
        }

        Predicate<Facts> every(int open) {
            Predicate<Facts> x = single(open);
            while (meets("and")) x = x.and(single(open));
            return x;
        }

        Predicate<Facts> single(int open) {
            if (meets("not")) return single(open).negate();
            if (look().equals("(") && open < 3) {
                at++;
                Predicate<Facts> x = any(open + 1);
                must(")");
                return x;
            }
            ToIntFunction<Facts> left = value();
            String sign = look();
            if (!List.of("<", "=", ">").contains(sign)) throw fault();
            at++;
            ToIntFunction<Facts> right = value();
            return f -> {
                int order = Integer.compare(left.applyAsInt(f), right.applyAsInt(f));
                return sign.equals("<") ? order < 0 : sign.equals("=") ? order == 0 : order > 0;
            };
        }

        ToIntFunction<Facts> value() {
            if (look().matches("[0-9]+")) {
                int v = number(4, 9999);
                return f -> v;
            }
            if (meets("year")) return Facts::year;
            if (meets("stands")) return Facts::stands;
            if (meets("grace")) return Facts::grace;
            if (meets("strength")) return Facts::strength;
            if (meets("number")) return Facts::number;
            throw fault();
        }
    }

    public int rules() {
        StringBuilder text = new StringBuilder();
        for (int b : tape) text.append((char) b);
        tape.clear();
        now.rules = new Reading(text.toString()).all();
        return now.rules.size();
    }

    // ---- years

    public int year() {
        need(!now.over(), -4);
        return now.go(0);
    }

    public int standing(int so) {
        need(in(so, 0, 4), -1);
        return now.set(How.values()[so]);
    }

    private World behindRest() {
        World w = now.twin();
        w.goRest();
        return w;
    }

    public int leaves(int p) {
        one(p);
        return behindRest().stands(p);
    }

    public int on(int n) {
        need(in(n, 0, 16), -1);
        World w = now.twin();
        int worth = 0;
        for (int k = 0; k < n; k++) if (!w.over()) worth += w.go(0);
        return worth;
    }

    public int until(int d) {
        How was = aDeed(d).how;
        need(was != How.UNDONE && was != How.FELL, -3);
        World w = now.twin();
        while (!w.over()) {
            int year = w.year;
            w.go(0);
            How how = w.deeds.get(d).how;
            if (how == How.UNDONE || how == How.FELL) return year;
        }
        throw new Refused(-3);
    }

    private static int late(World w) {
        int set = 0;
        for (Deed d : w.deeds) if (w.isOverdue(d, w.end - 1)) set |= 1 << d.whose;
        return set;
    }

    public int overdue() { return late(behindRest()); }

    public int falls(int d) {
        need(aDeed(d).how == How.STANDS, -4);
        World w = now.twin();
        w.undo(d);
        int set = 0;
        for (int e = 0; e < w.deeds.size(); e++) {
            if (w.deeds.get(e).how == How.FELL && now.deeds.get(e).how == How.STANDS) set |= 1 << e;
        }
        return set;
    }

    public int graceFor(int p) {
        one(p);
        int[] worth = new int[10];
        for (int g = 1; g <= 9; g++) {
            World w = now.twin();
            w.people.get(p).grace = g;
            worth[g] = w.goRest();
        }
        int most = Arrays.stream(worth, 1, 10).max().getAsInt();
        for (int g = 1; g <= 9; g++) if (worth[g] == most) return g;
        throw new IllegalStateException();
    }

    public int strengthFor(int p) {
        one(p);
        for (int s = 1; s <= 9; s++) {
            World w = now.twin();
            w.people.get(p).strength = s;
            w.goRest();
            if ((late(w) & 1 << p) == 0) return s;
        }
        throw new Refused(-3);
    }

    // ---- loans

    private void pair(int p, int q) { one(p); one(q); need(p != q, -1); }

    public int owe(int p, int q, int v) {
        pair(p, q);
        need(in(v, 0, 99), -1);
        int was = now.owed[p][q];
        now.owed[p][q] = v;
        return was;
    }

    public int owes(int p, int q) { pair(p, q); return now.owed[p][q]; }
    public int net(int p) { one(p); return now.net(p) + 10000; }

    private int shortest(int from, int at, int seen) {
        int least = 99;
        for (int q = 0; q < now.people.size(); q++) {
            if (now.owed[at][q] == 0) continue;
            if (q == from) least = Math.min(least, Integer.bitCount(seen));
            else if ((seen & 1 << q) == 0) least = Math.min(least, shortest(from, q, seen | 1 << q));
        }
        return least;
    }

    public int ring(int p) {
        one(p);
        int many = shortest(p, p, 1 << p);
        need(many < 99, -3);
        return many;
    }

    /** Each one in turn gets rid of all it has at one that comes behind it and has the opposite. */
    private static int paid(int[] nets, int from) {
        while (from < nets.length && nets[from] == 0) from++;
        if (from == nets.length) return 0;
        int least = 99;
        for (int q = from + 1; q < nets.length; q++) {
            if (Integer.signum(nets[q]) * Integer.signum(nets[from]) >= 0) continue;
            nets[q] += nets[from];
            least = Math.min(least, 1 + paid(nets, from + 1));
            nets[q] -= nets[from];
        }
        return least;
    }

    public int payments() {
        int[] nets = new int[now.people.size()];
        for (int p = 0; p < nets.length; p++) nets[p] = now.net(p);
        return paid(nets, 0);
    }

    // ---- plans

    private List<int[]> plans = new ArrayList<>();
    private List<Integer> worths = new ArrayList<>();
    private List<Integer> behind = new ArrayList<>();

    private int makePlans(int n) {
        need(in(n, 0, 4), -1);
        plans = new ArrayList<>();
        worths = new ArrayList<>();
        behind = new ArrayList<>();
        int years = Math.min(n, Math.max(0, now.end - now.year));
        int acts = now.people.size() + 1;
        for (int k = 0; k < Math.round(Math.pow(acts, years)); k++) {
            int[] plan = new int[years];
            int rest = k;
            for (int i = years - 1; i >= 0; i--) { plan[i] = rest % acts; rest /= acts; }
            World w = now.twin();
            int worth = 0;
            for (int act : plan) worth += w.go(act);
            plans.add(plan);
            worths.add(worth);
            behind.add(w.set(How.STANDS));
        }
        int most = 0;
        for (int worth : worths) most = Math.max(most, worth);
        return most;
    }

    public int best(int n) { return makePlans(n); }

    private int[] firstBest(int n) {
        int most = makePlans(n);
        return plans.get(worths.indexOf(most));
    }

    public int ith(int n, int i) {
        need(in(n, 0, 4) && in(i, 0, 3), -1);
        int[] plan = firstBest(n);
        need(i < plan.length, -3);
        return plan[i];
    }

    public int ways(int n) {
        int most = makePlans(n);
        return (int) worths.stream().filter(w -> w == most).count();
    }

    private void deedSet(int set) { need(set >= 0 && set < 1 << now.deeds.size(), -1); }

    public int life(int n, int set) {
        deedSet(set);
        makePlans(n);
        int fewest = 99;
        for (int k = 0; k < plans.size(); k++) {
            if ((behind.get(k) & set) != set) continue;
            fewest = Math.min(fewest, (int) Arrays.stream(plans.get(k)).filter(a -> a > 0).count());
        }
        need(fewest < 99, -3);
        return fewest;
    }

    public int bars(int n, int set) {
        deedSet(set);
        makePlans(n);
        for (int d = 0; d < 10; d++) {
            int bit = 1 << d;
            if ((set & bit) != 0 && behind.stream().noneMatch(b -> (b & bit) != 0)) return d;
        }
        throw new Refused(-3);
    }

    // ---- a game, strangers, lots

    /** The value, and the least act to it. */
    private static int[] playFrom(World w, int n, boolean wantsMuch) {
        if (n == 0 || w.over()) return new int[] {0, -1};
        int[] got = null;
        for (int act = 0; act <= w.people.size(); act++) {
            World x = w.twin();
            int worth = x.go(act) + playFrom(x, n - 1, !wantsMuch)[0];
            if (got == null || (wantsMuch ? worth > got[0] : worth < got[0])) got = new int[] {worth, act};
        }
        return got;
    }

    public int game(int n) {
        need(in(n, 1, 4), -1);
        return playFrom(now, n, true)[0];
    }

    public int play(int n) {
        need(in(n, 1, 4), -1);
        need(!now.over(), -3);
        return playFrom(now, n, true)[1];
    }

    public int report(int weight, int year, int by, int was) {
        need(in(weight, 1, 9) && in(year, 0, 15) && in(by, 0, 31) && in(was, 0, 1), -1);
        need(now.reports.size() < 6, -2);
        now.reports.add(new Report(weight, year, by, was));
        return now.reports.size() - 1;
    }

    public int forget() {
        int were = now.reports.size();
        now.reports = new ArrayList<>();
        return were;
    }

    private static boolean isSo(Report r, Person s) {
        int undone = 1000;
        for (int y = 31; y >= r.year + s.term(); y--) if (s.pull(y) >= r.weight) undone = y;
        return undone <= r.by == (r.was == 1);
    }

    private static List<Person> fitting(List<Report> reports) {
        List<Person> fit = new ArrayList<>();
        for (int kind = 1; kind <= 5; kind++) {
            for (int grace = 1; grace <= 9; grace++) {
                for (int strength = 1; strength <= 9; strength++) {
                    Person s = new Person(kind, grace, strength);
                    if (reports.stream().allMatch(r -> isSo(r, s))) fit.add(s);
                }
            }
        }
        return fit;
    }

    public int span(int what) {
        need(in(what, 0, 3), -1);
        List<Person> fit = fitting(now.reports);
        if (what == 0) return fit.size();
        need(!fit.isEmpty(), -3);
        Person s = fit.get(0);
        return what == 1 ? s.kind : what == 2 ? s.grace : s.strength;
    }

    public int liar() {
        need(fitting(now.reports).isEmpty(), -3);
        for (int r = 0; r < now.reports.size(); r++) {
            List<Report> others = new ArrayList<>(now.reports);
            others.remove(r);
            if (!fitting(others).isEmpty()) return r;
        }
        throw new Refused(-3);
    }

    public int seed(int v) {
        int was = now.z;
        now.z = v;
        return was;
    }

    public int lot() {
        need(!now.over(), -4);
        return now.go(now.draw());
    }

    public int often(int n, int v) {
        need(in(n, 1, 40) && in(v, 0, 999), -1);
        int many = 0, z = now.z;
        for (int k = 0; k < n; k++) {
            World w = now.twin();
            w.z = z;
            w.score = 0;
            while (!w.over()) w.go(w.draw());
            if (w.score >= v) many++;
            z = w.z;
        }
        return many;
    }

    // ---- rows

    public int prove(int n) {
        int[] plan = firstBest(n);
        rows.clear();
        World w = now.twin();
        for (int act : plan) rows.add(new int[] {act, w.go(act), w.set(How.STANDS)});
        return rows.size();
    }

    public int row(int k, int what) {
        need(in(k, 0, rows.size() - 1) && in(what, 0, 2), -9);
        return rows.get(k)[what];
    }

    public int alterRow(int k, int what, int v) {
        int was = row(k, what);
        rows.get(k)[what] = v;
        return was;
    }

    public int judge() {
        World w = now.twin();
        for (int k = 0; k < rows.size(); k++) {
            int[] row = rows.get(k);
            if (!in(row[0], 0, w.people.size()) || w.over()) return k + 1;
            if (w.go(row[0]) != row[1] || w.set(How.STANDS) != row[2]) return k + 1;
        }
        return 0;
    }

    // ---- the host, by Java's own arrays

    public int sheet(int sheet, int sort, int n) {
        need(in(sheet, 0, 3) && in(sort, -1, 4), -1);
        if (sort == -1) {
            sheets[sheet] = null;
            return 1;
        }
        need(n <= 40, -1);
        need(n >= 0, -14);
        sheets[sheet] = sort == 0 ? new byte[n] : sort == 1 ? new short[n] : sort == 2 ? new int[n]
            : sort == 3 ? new long[n] : new boolean[n];
        return 1;
    }

    private static int sort(Object row) {
        return row instanceof byte[] ? 0 : row instanceof short[] ? 1 : row instanceof int[] ? 2 : row instanceof long[] ? 3 : 4;
    }

    public int write(int sheet, int i, int v) {
        need(in(sheet, 0, 3), -1);
        Object row = sheets[sheet];
        need(row != null, -11);
        need(in(i, 0, java.lang.reflect.Array.getLength(row) - 1), -12);
        switch (sort(row)) {
            case 0: ((byte[]) row)[i] = (byte) v; break;
            case 1: ((short[]) row)[i] = (short) v; break;
            case 2: ((int[]) row)[i] = v; break;
            case 3: ((long[]) row)[i] = v; break;
            default: ((boolean[]) row)[i] = v != 0; break;
        }
        return 1;
    }

    public int item(int sheet, int sort, int i) {
        need(in(sheet, 0, 3) && in(sort, 0, 4), -1);
        Object row = sheets[sheet];
        need(row == null || sort(row) == sort, -13);
        need(row != null, -11);
        need(in(i, 0, java.lang.reflect.Array.getLength(row) - 1), -12);
        switch (sort) {
            case 0: return ((byte[]) row)[i];
            case 1: return ((short[]) row)[i];
            case 2: return ((int[]) row)[i];
            case 3: return (int) ((long[]) row)[i];
            default: return ((boolean[]) row)[i] ? 1 : 0;
        }
    }

    private byte[] bytes(int sheet, int n) {
        need(in(sheet, 0, 3) && in(n, 0, 20), -1);
        Object row = sheets[sheet];
        need(row == null || row instanceof byte[], -13);
        need(row != null, -11);
        return (byte[]) row;
    }

    public int goAll(int sheet, int i, int n) {
        byte[] row = bytes(sheet, n);
        int score = now.score;
        for (long at = i; at < (long) i + n; at++) {
            need(at >= 0 && at < row.length, -12);
            if (in(row[(int) at], 0, now.people.size()) && !now.over()) now.go(row[(int) at]);
        }
        return now.score - score;
    }

    public int wouldBe(int sheet, int i, int n) {
        byte[] row = bytes(sheet, n);
        World w = now.twin();
        for (long at = i; at < (long) i + n; at++) {
            need(at >= 0 && at < row.length, -12);
            need(in(row[(int) at], 0, now.people.size()) && !w.over(), -4);
            w.go(row[(int) at]);
        }
        return w.score - now.score;
    }

    public int shelf(int shelf, int what, int n) {
        need(in(shelf, 0, 3) && in(what, 0, 2), -1);
        if (what == 0) one(n);
        if (what == 1) need(in(n, 0, 3), -1);
        shelves[shelf] = what == 0 ? (Object) n : what == 1 ? sheets[n] : null;
        return 1;
    }

    private Object held(int shelf) {
        Object thing = shelves[shelf];
        return thing instanceof Integer && (Integer) thing >= now.people.size() ? null : thing;
    }

    public int taken(int shelf, int as) {
        need(in(shelf, 0, 3) && (in(as, 0, 5) || in(as, 10, 14)), -1);
        Object thing = held(shelf);
        need(thing != null, -11);
        if (thing instanceof Integer) {
            int p = (Integer) thing;
            need(LINES.get(now.people.get(p).kind).contains(as), -13);
            return p;
        }
        need(sort(thing) == as - 10, -13);
        return java.lang.reflect.Array.getLength(thing);
    }

    /** A body by its KIND (4th letter on: its name) or what that KIND's forebears have. */
    private int body(int n, int a, int kind, String name, int x) {
        for (int k : LINES.get(kind)) {
            int above = k == 0 ? 0 : LINES.get(k).get(1);
            switch (KINDS[k] + " " + name) {
                case "hand gives": trace.add(10); return x - a;
                case "hand takes": trace.add(11); return call(n, a, "gives", x) * 2;
                case "hand splits":
                    trace.add(12);
                    if (a == n) throw new Parted();
                    return x % (a - n);
                case "hand swears": trace.add(13); return call(n, a, "takes", x) ^ n;
                case "clasped gives": trace.add(20); return body(n, a, above, name, x) + n;
                case "forger takes": trace.add(30); return 0 - body(n, a, above, name, x);
                case "slow splits": trace.add(40); return body(n, a, above, name, x + 5);
                case "twin gives": trace.add(50); return body(n, a, above, name, x) * 3;
                case "twin swears": trace.add(51); return body(n, a, above, name, x) - call(n, a, "splits", a);
                case "heir takes": trace.add(60); return body(n, a, above, name, x) ^ a;
                case "heir splits": trace.add(61); return body(n, a, above, name, x) + call(n, a, "gives", n);
                default: break;
            }
        }
        throw new IllegalStateException();
    }

    private int call(int n, int a, String name, int x) { return body(n, a, now.people.get(n).kind, name, x); }

    public int act(int shelf, int act, int x) {
        trace = new ArrayList<>();
        if (!in(shelf, 0, 3) || !in(act, 0, 3) || !(held(shelf) instanceof Integer)) return 0;
        int n = (Integer) held(shelf);
        try {
            return call(n, now.people.get(n).grace, new String[] {"gives", "takes", "splits", "swears"}[act], x);
        } catch (Parted parted) {
            return -15;
        }
    }

    public int trace(int i) {
        need(in(i, 0, Math.min(30, trace.size()) - 1), -3);
        return trace.get(i);
    }

    public int many(int what) {
        need(in(what, 0, 7), -1);
        int loans = 0;
        for (int[] row : now.owed) for (int v : row) if (v > 0) loans++;
        return new int[] {now.people.size(), now.rules.size(), now.deeds.size(), now.reports.size(), rows.size(),
            tape.size(), Math.min(30, trace.size()), loans}[what];
    }

    public int keep() {
        kept = now.twin();
        return 1;
    }

    public int again() {
        need(kept != null, -3);
        now = kept.twin();
        return now.people.size();
    }
}
