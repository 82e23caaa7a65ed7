/** REPORTS, STRANGERS and LOTS of Terms, section 3; promises 34 to 40. */
final class BoundsOfStrangers extends Worlds {
    static void run() {
        ofReports();
        ofStrangers();
        ofFits();
        ofLiars();
        ofLots();
        report();
        forget();
        span();
        liar();
        seed();
        lot();
        often();
    }

    private static LeftUndoes told(int... weightYearByWas) {
        LeftUndoes x = new LeftUndoes();
        for (int k = 0; k + 3 < weightYearByWas.length; k += 4) {
            x.report(weightYearByWas[k], weightYearByWas[k + 1], weightYearByWas[k + 2], weightYearByWas[k + 3]);
        }
        return x;
    }

    private static int[] spans(LeftUndoes x) {
        return each(0, 3, x::span);
    }

    private static void ofReports() {
        terms("A REPORT (6 at most): of a stranger a DEED of a WEIGHT (1 to 9), done in a YEAR (0 to 15), was UNDONE (1) by a YEAR (0 to 31), "
            + "this one with it, or not yet (0).");
        LeftUndoes x = new LeftUndoes();
        int[][] good = {{1, 0, 0, 0}, {9, 15, 31, 1}, {1, 15, 0, 1}, {9, 0, 31, 0}, {5, 7, 9, 1}, {1, 0, 0, 1}};
        for (int r = 0; r < 6; r++) due("report", x.report(good[r][0], good[r][1], good[r][2], good[r][3]), r);
        due("the seventh", x.report(1, 0, 0, 0), FULL);
        // who undid a light DEED of YEAR 0 by each YEAR, this one with it; slow ones with STRENGTH 1 never do
        int[] first = {0, 18, 27, 62, 88, 105, 140, 166, 183, 218};
        for (int by = 0; by <= 9; by++) {
            due("UNDONE by " + by, told(1, 0, by, 1).span(0), first[by]);
            due("not yet by " + by, told(1, 0, by, 0).span(0), 405 - first[by]);
        }
        dueAll("an heir with GRACE 9 undoes it in YEAR 20", all(told(1, 0, 19, 1).span(0), told(1, 0, 20, 1).span(0), told(1, 0, 31, 1).span(0)),
            387, 396, 396);
    }

    private static void ofStrangers() {
        terms("A STRANGER is a KIND (1 to 5), GRACE, STRENGTH; it undoes each DEED in the first YEAR from DUE up to 31 in which its PULL is "
            + "WEIGHT or more (never, if there is none).");
        due("all of five KINDS", new LeftUndoes().span(0), 5 * 9 * 9);
        // of YEAR 15: forgers and twins with GRACE 9 are DUE in 33, 32, heirs from GRACE 6 on in 32; slow ones with STRENGTH 1
        due("never by 31", told(1, 15, 31, 0).span(0), 9 + 9 + 36 + 9);
        // of YEAR 14 the twins are DUE in 31, and heirs with GRACE 6
        due("never by 31, of YEAR 14", told(1, 14, 31, 0).span(0), 9 + 27 + 9);
        due("in 31, not in 30", told(1, 15, 31, 1, 1, 15, 30, 0).span(0), 9 + 9);
        dueAll("those are forgers with GRACE 8, heirs with GRACE 5", spans(told(1, 15, 31, 1, 1, 15, 30, 0)), 18, 2, 8, 1);
        // PULL is WEIGHT or more: clasped 8, 9; forgers 8, 9; twins 7, 8, 9; heirs all, from YEAR 9 on
        due("WEIGHT 8 ever", told(8, 0, 31, 1).span(0), 18 + 18 + 27 + 81);
        due("WEIGHT 9 ever", told(9, 0, 31, 1).span(0), 9 + 9 + 18 + 81);
        due("WEIGHT 4 ever", told(4, 0, 31, 1).span(0), 54 + 54 + 63 + 18 + 81);
        // the first of the fitting YEARS: clasped with GRACE 2 (DUE in 2, PULL 0) and 3 in YEAR 3; twins with GRACE 2; slow ones with 1
        due("in YEAR 3, not in 2", told(1, 0, 3, 1, 1, 0, 2, 0).span(0), 9 + 9 + 9 + 8);
        dueAll("clasped with GRACE 2 are the first of them", spans(told(1, 0, 3, 1, 1, 0, 2, 0)), 35, 1, 2, 1);
        // of YEAR 1 clasped with GRACE 1 are DUE in 2, too
        dueAll("of YEAR 1", spans(told(1, 1, 3, 1, 1, 1, 2, 0)), 9 + 9 + 9, 1, 1, 1);
    }

    private static void ofFits() {
        terms("STRANGERS that FIT: those by whom each REPORT is so.");
        dueAll("no REPORT: all", spans(new LeftUndoes()), 405, 1, 1, 1);
        dueAll("one", spans(told(1, 15, 31, 0)), 63, 2, 9, 1);
        // of YEAR 0 forgers, twins with GRACE 9 are DUE in 18, 17; heirs from 6 on in 17 to 20
        dueAll("two", spans(told(1, 15, 31, 0, 1, 0, 18, 0)), 9 + 18, 4, 1, 1);
        dueAll("three", spans(told(1, 15, 31, 0, 1, 0, 18, 0, 1, 0, 31, 1)), 18, 5, 8, 1);
        dueAll("four", spans(told(1, 15, 31, 0, 1, 0, 18, 0, 1, 0, 31, 1, 1, 0, 19, 0)), 9, 5, 9, 1);
        dueAll("five, none", spans(told(1, 15, 31, 0, 1, 0, 18, 0, 1, 0, 31, 1, 1, 0, 19, 0, 9, 0, 8, 1)), 0, NONE, NONE, NONE);
        dueAll("one alone", spans(told(1, 0, 1, 1, 2, 0, 31, 0)), 1, 1, 1, 1);
        // forgers undo 9 in YEAR 18, and nothing weighs more: STRENGTH 9, GRACE 9 of KIND 2
        dueAll("a forger alone", spans(told(9, 0, 18, 1, 1, 0, 17, 0)), 1 + 9, 2, 9, 9);
        dueAll("six, of which the last counts, too", spans(told(1, 0, 31, 1, 1, 0, 31, 1, 1, 0, 31, 1, 1, 0, 31, 1, 1, 0, 31, 1, 1, 0, 31, 0)),
            0, NONE, NONE, NONE);
    }

    private static void ofLiars() {
        terms("LIAR: if none FITS, the least REPORT but for which some would.");
        due("a single one, which can't be", told(1, 0, 0, 1).liar(), 0);
        due("either of two: the least", told(1, 0, 20, 1, 1, 0, 20, 0).liar(), 0);
        due("either of the last two", told(1, 0, 0, 0, 1, 0, 20, 1, 1, 0, 20, 0).liar(), 1);
        due("the last one of six", told(1, 0, 0, 0, 1, 0, 0, 0, 1, 0, 0, 0, 1, 0, 0, 0, 1, 0, 0, 0, 1, 0, 0, 1).liar(), 5);
        due("the first one of six", told(1, 0, 0, 1, 1, 0, 0, 0, 1, 0, 0, 0, 1, 0, 0, 0, 1, 0, 0, 0, 1, 0, 0, 0).liar(), 0);
        due("but for it the first STRANGER alone", told(1, 0, 1, 1, 2, 0, 31, 0, 1, 0, 0, 1).liar(), 2);
        due("but for it the last ones alone", told(1, 15, 31, 0, 1, 0, 18, 0, 1, 0, 31, 1, 1, 0, 19, 0, 9, 0, 8, 1).liar(), 4);
        due("two that can't be", told(1, 0, 0, 1, 1, 15, 15, 1).liar(), NONE);
        due("two that can't be, and others", told(1, 0, 5, 1, 1, 0, 0, 1, 1, 0, 6, 1, 1, 15, 15, 1).liar(), NONE);
        due("one FITS", told(1, 0, 1, 1, 2, 0, 31, 0).liar(), NONE);
    }

    /** Each of n has a DEED, undone in YEAR 0, but if its own is HELD. */
    private static LeftUndoes held(int n) {
        LeftUndoes x = new LeftUndoes();
        for (int p = 0; p < n; p++) x.person(2, 9, 9);
        for (int p = 0; p < n; p++) x.deed(p, 0, p + 1, -1);
        told(x, "hand early 99;");
        return x;
    }

    private static int next(int z) {
        return (int) ((z * 1103515245L + 12345L) % (1L << 32));
    }

    private static int drawn(int z, int people) {
        return (int) (((z & 0xffffffffL) / 65536) % (people + 1));
    }

    private static void ofLots() {
        terms("LOT: a YEAR by chance: z (an int; 1 at first) becomes z * 1103515245 + 12345; who is HELD in it is the ACT that z >>> 16 leaves "
            + "by how many PEOPLE there are and 1.");
        LeftUndoes at = new LeftUndoes();
        dueAll("nobody: z at first, and behind it", all(at.seed(1), at.lot(), at.seed(1)), 1, 0, 1103527590);
        for (int n = 0; n <= 6; n++) {
            LeftUndoes x = held(n);
            boolean[] came = new boolean[7];
            int[] seeds = {0, 1, 2, 3, 4, 5, 6, 7, 8, 9, -1, -2, -3, LEAST, MOST, LEAST + 1, MOST - 1, 65536, -65536, 1 << 30, 12345, 77, 1000, -77};
            for (int seed : seeds) {
                x.anew();
                x.seed(seed);
                int z = next(seed), act = drawn(z, n);
                came[act] = true;
                due("lot() of " + n + " from z " + seed + ": WORTH", x.lot(), act);
                due("who is HELD: whose DEED STANDS", x.standing(1), act == 0 ? 0 : 1 << act - 1);
                due("z", x.seed(0), z);
            }
            int all = 0;
            for (boolean one : came) if (one) all++;
            due("each ACT of " + n + " came", all, n + 1);
        }
    }

    private static void report() {
        promise(34, "A REPORT: its number. BAD; FULL.");
        LeftUndoes x = new LeftUndoes();
        dueAll("report", each(0, 5, r -> x.report(r + 1, 15, 31, 0)), 0, 1, 2, 3, 4, 5);
        int[][] bad = {{0, 0, 0, 0}, {10, 0, 0, 0}, {-1, 0, 0, 0}, {LEAST, 0, 0, 0}, {MOST, 0, 0, 0}, {1, -1, 0, 0}, {1, 16, 0, 0}, {1, LEAST, 0, 0},
            {1, MOST, 0, 0}, {1, 0, -1, 0}, {1, 0, 32, 0}, {1, 0, LEAST, 0}, {1, 0, MOST, 0}, {1, 0, 0, -1}, {1, 0, 0, 2}, {1, 0, 0, LEAST},
            {1, 0, 0, MOST}};
        for (int[] b : bad) {
            refused("report" + java.util.Arrays.toString(b), Worlds::rich, o -> o.report(b[0], b[1], b[2], b[3]), BAD);
            refused("report" + java.util.Arrays.toString(b) + ", full", Worlds::sixReports, o -> o.report(b[0], b[1], b[2], b[3]), BAD);
        }
        refused("the seventh", Worlds::sixReports, o -> o.report(1, 0, 0, 0), FULL);
    }

    private static void forget() {
        promise(35, "There are no REPORTS: how many there were.");
        LeftUndoes x = told(1, 0, 0, 1);
        dueAll("forget", all(x.forget(), x.many(3), x.span(0), x.forget()), 1, 0, 405, 0);
        LeftUndoes y = sixReports();
        dueAll("forget six, and report anew", all(y.forget(), y.report(1, 0, 1, 1), y.many(3), y.span(0), y.forget()), 6, 0, 1, 18, 1);
        due("of none", new LeftUndoes().forget(), 0);
    }

    private static void span() {
        promise(36, "STRANGERS that FIT: what = 0 how many; of that with the least KIND, of these the least GRACE, of these the least STRENGTH: "
            + "1 KIND, 2 GRACE, 3 STRENGTH. BAD; NONE (of 1 to 3): there are none.");
        // clasped with GRACE 2, 3 and twins with GRACE 2 undo 8 in YEAR 3, not in 2: STRENGTH 8, 9 and 7 to 9
        dueAll("the least KIND, though a lesser STRENGTH is behind it", spans(told(8, 0, 3, 1, 8, 0, 2, 0)), 4 + 3, 1, 2, 8);
        // in YEAR 5 nothing is clasped: twins with GRACE 3 and STRENGTH 8, 9; no forger (even), slow ones are too weak
        dueAll("the least STRENGTH", spans(told(9, 0, 5, 1, 9, 0, 4, 0)), 2, 3, 3, 8);
        dueAll("none: how many", spans(told(1, 0, 0, 1)), 0, NONE, NONE, NONE);
        for (int what : new int[] {-1, 4, LEAST, MOST}) {
            refused("span(" + what + ")", Worlds::rich, x -> x.span(what), BAD);
            due("span(" + what + "), none FITS: BAD ahead of NONE", told(1, 0, 0, 1).span(what), BAD);
        }
        for (int what = 1; what <= 3; what++) {
            int of = what;
            refused("span(" + what + "), none", () -> told(1, 0, 0, 1), x -> x.span(of), NONE);
        }
    }

    private static void liar() {
        promise(37, "LIAR. NONE: some FIT; or there is no such REPORT.");
        due("no REPORTS: all FIT", new LeftUndoes().liar(), NONE);
        due("some FIT", told(1, 0, 1, 1).liar(), NONE);
        refused("liar(), some FIT", Worlds::rich, LeftUndoes::liar, NONE);
        refused("liar(), two can't be", () -> told(1, 0, 0, 1, 1, 15, 15, 1), LeftUndoes::liar, NONE);
        due("one can't be", told(1, 0, 1, 1, 1, 0, 0, 1).liar(), 1);
    }

    private static void seed() {
        promise(38, "z becomes v: what it was.");
        LeftUndoes x = new LeftUndoes();
        dueAll("seed, whatever it is", all(x.seed(0), x.seed(-1), x.seed(LEAST), x.seed(MOST), x.seed(-4), x.seed(1)), 1, 0, -1, LEAST, MOST, -4);
    }

    private static void lot() {
        promise(39, "A YEAR by LOT: what it was WORTH. STATE: it is OVER.");
        LeftUndoes x = held(6);
        x.ends(2);
        int z = next(1), first = drawn(z, 6), then = next(z), second = drawn(then, 6);
        int kept = second == first ? first : 0;
        dueAll("two YEARS", all(x.lot(), x.lot(), x.state(0), x.state(2)), first, kept, 2, first + kept);
        dueAll("OVER, and z as it was", all(x.lot(), x.seed(then)), STATE, then);
        refused("lot(), OVER", Worlds::over, LeftUndoes::lot, STATE);
        due("nobody", new LeftUndoes().lot(), 0);
    }

    /** Of so many times up to END 3, from YEAR 0 and z 1, those that are WORTH v or more: who is HELD at first keeps it while HELD. */
    private static int oftenDrawn(int people, int n, int v) {
        int z = 1, many = 0;
        for (int time = 0; time < n; time++) {
            int first = 0, worth = 0;
            boolean kept = true;
            for (int year = 0; year < 3; year++) {
                z = next(z);
                int act = drawn(z, people);
                if (year == 0) first = act;
                kept &= act == first;
                worth += kept ? first : 0;
            }
            if (worth >= v) many++;
        }
        return many;
    }

    private static void often() {
        promise(40, "How many of n (1 to 40) times all YEARS yet by LOT, each from how it is now (z goes on from one to the next), are WORTH v "
            + "(0 to 999) or more (all is as it was in the end, z, too). BAD.");
        LeftUndoes x = held(3);
        x.ends(3);
        for (int n : new int[] {1, 2, 3, 10, 39, 40}) {
            for (int v = 0; v <= 10; v++) due("often(" + n + ", " + v + ")", x.often(n, v), oftenDrawn(3, n, v));
        }
        due("often(40, 999)", x.often(40, 999), 0);
        due("often(40, 0)", x.often(40, 0), 40);
        due("z is as it was", x.seed(1), 1);
        LeftUndoes y = weak();
        y.year();
        y.ends(3);
        dueAll("from how it is now: two YEARS, SCORE isn't in it", all(y.often(5, 10), y.often(5, 11), y.state(0), y.state(2)), 5, 0, 1, 5);
        LeftUndoes last = people(2, 9, 9);
        last.deed(0, 15, 7, -1);
        last.ends(16);
        dueAll("16 YEARS, YEAR 15 with them", all(last.often(9, 7), last.often(9, 8)), 9, 0);
        dueAll("OVER: nothing is WORTH 0", all(over().often(40, 0), over().often(40, 1)), 40, 0);
        int[][] bad = {{0, 0}, {41, 0}, {-1, 0}, {LEAST, 0}, {MOST, 0}, {1, -1}, {1, 1000}, {1, LEAST}, {1, MOST}, {40, 1000}};
        for (int[] b : bad) refused("often" + java.util.Arrays.toString(b), Worlds::rich, o -> o.often(b[0], b[1]), BAD);
    }
}
