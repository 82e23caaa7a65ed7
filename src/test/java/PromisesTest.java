/** Promise by promise: what is due was reckoned by hand from the document. */
public final class PromisesTest {
    private static final int BAD = -1, FULL = -2, NONE = -3, STATE = -4;
    private static final int NOTHING = -11, OUTSIDE = -12, OTHER = -13, BELOW = -14, PARTED = -15;
    private static final int LEAST = Integer.MIN_VALUE, MOST = Integer.MAX_VALUE;
    private static int promise;
    private static int checks;
    private static int wrong;

    private static void due(String call, int got, int want) {
        checks++;
        if (got == want) return;
        wrong++;
        System.out.println("promise " + promise + ": " + call + " answered " + got + ", due is " + want);
    }

    private static void dueAll(String calls, int[] got, int... want) {
        for (int k = 0; k < want.length; k++) due(calls + " [" + k + "]", k < got.length ? got[k] : MOST, want[k]);
        due(calls + " (how many)", got.length, want.length);
    }

    private static void years(LeftUndoes x, int n) {
        for (int k = 0; k < n; k++) x.year();
    }

    private static int told(LeftUndoes x, String text) {
        for (int at = 0; at < text.length(); at++) x.feed(text.charAt(at), 1);
        return x.rules();
    }

    private static int[] states(LeftUndoes x) {
        return new int[] {x.state(0), x.state(1), x.state(2), x.state(3)};
    }

    private static int[] deeds(LeftUndoes x) {
        return new int[] {x.standing(0), x.standing(1), x.standing(2), x.standing(3), x.standing(4)};
    }

    private static int[] traced(LeftUndoes x) {
        int[] bodies = new int[Math.max(0, x.many(6))];
        for (int k = 0; k < bodies.length; k++) bodies[k] = x.trace(k);
        return bodies;
    }

    private static LeftUndoes people(int... kindGraceStrength) {
        LeftUndoes x = new LeftUndoes();
        for (int k = 0; k + 2 < kindGraceStrength.length; k += 3) {
            x.person(kindGraceStrength[k], kindGraceStrength[k + 1], kindGraceStrength[k + 2]);
        }
        return x;
    }

    /** One of each KIND, with GRACE 3 and STRENGTH 5, and one more clasped. */
    private static LeftUndoes family() {
        return people(1, 3, 5, 2, 3, 5, 3, 3, 5, 4, 3, 5, 5, 3, 5, 1, 3, 5);
    }

    /** DEEDS 0, 1 of YEAR 0; 2 of YEAR 1; each needs the one ahead of it; 3 needs one that isn't done by then. */
    private static LeftUndoes chain() {
        LeftUndoes x = people(1, 1, 9, 2, 1, 2);
        x.deed(0, 0, 5, -1);
        x.deed(1, 0, 4, 0);
        x.deed(1, 1, 1, 1);
        x.deed(0, 0, 2, 2);
        return x;
    }

    /** A slow one who has the strength for nothing: its DEED is DUE in YEAR 3, and stands for good. */
    private static LeftUndoes weak(int weight) {
        LeftUndoes x = people(4, 1, 3);
        x.deed(0, 0, weight, -1);
        return x;
    }

    /** A forger's DEED of WEIGHT 3, DUE in YEAR 2, and undone then. */
    private static LeftUndoes single() {
        LeftUndoes x = people(2, 1, 9);
        x.deed(0, 0, 3, -1);
        return x;
    }

    private static void newObject() {
        promise = 1;
        LeftUndoes x = new LeftUndoes();
        for (int what = 0; what < 8; what++) due("many(" + what + ")", x.many(what), 0);
        dueAll("state", states(x), 0, 12, 0, 0);
        dueAll("standing", deeds(x), 0, 0, 0, 0, 0);
        due("again()", x.again(), NONE);
        due("seed(5)", x.seed(5), 1);
        for (int k = 0; k < 4; k++) {
            due("item", x.item(k, 0, 0), NOTHING);
            due("taken", x.taken(k, 0), NOTHING);
            due("taken", x.taken(k, 10), NOTHING);
            due("row", x.row(k, 0), -9);
        }
        due("trace(0)", x.trace(0), NONE);
        due("personOf(0, 0)", x.personOf(0, 0), BAD);
        due("deedOf(0, 0)", x.deedOf(0, 0), BAD);
        due("judge()", x.judge(), 0);
        promise = 55;
        due("keep() of nothing", x.keep(), 1);
        x.person(1, 1, 1);
        promise = 26;
        due("payments() of one", x.payments(), 0);
        promise = 56;
        due("again()", x.again(), 0);
        due("many(0)", x.many(0), 0);
    }

    private static void persons() {
        promise = 2;
        LeftUndoes x = new LeftUndoes();
        int[][] bad = {{0, 1, 1}, {6, 1, 1}, {-1, 1, 1}, {1, 0, 1}, {1, 10, 1}, {1, 1, 0}, {1, 1, 10}, {LEAST, 1, 1},
            {1, MOST, 1}, {1, 1, LEAST}};
        for (int[] b : bad) due("person, bad", x.person(b[0], b[1], b[2]), BAD);
        due("many(0)", x.many(0), 0);
        for (int p = 0; p < 5; p++) due("person", x.person(p + 1, 9, 1), p);
        due("person, sixth", x.person(5, 1, 9), 5);
        due("person, seventh", x.person(1, 1, 1), FULL);
        for (int[] b : bad) due("person, bad ahead of full", x.person(b[0], b[1], b[2]), BAD);
        due("many(0)", x.many(0), 6);
    }

    private static void personsOf() {
        promise = 3;
        LeftUndoes x = family();
        int[] kinds = {1, 2, 3, 4, 5, 1}, pulls = {5, 5, 6, 2, 2, 5}, pulls2 = {0, 5, 6, 2, 2, 0}, pulls9 = {5, 5, 6, 2, 9, 5};
        for (int p = 0; p < 6; p++) {
            due("KIND", x.personOf(p, 0), kinds[p]);
            due("GRACE", x.personOf(p, 1), 3);
            due("STRENGTH", x.personOf(p, 2), 5);
            due("weights", x.personOf(p, 3), 0);
            due("PULL in 0", x.personOf(p, 4), pulls[p]);
            due("CHOICE", x.personOf(p, 5), 10);
        }
        years(x, 2);
        for (int p = 0; p < 6; p++) due("PULL in 2", x.personOf(p, 4), pulls2[p]);
        years(x, 6);
        for (int p = 0; p < 6; p++) due("PULL in 8", x.personOf(p, 4), pulls2[p]);
        years(x, 1);
        for (int p = 0; p < 6; p++) due("PULL in 9", x.personOf(p, 4), pulls9[p]);
        int[][] bad = {{6, 0}, {-1, 0}, {0, 6}, {0, -1}, {LEAST, 0}, {0, MOST}};
        for (int[] b : bad) due("personOf, bad", x.personOf(b[0], b[1]), BAD);
        due("personOf, nobody", single().personOf(1, 0), BAD);
    }

    private static void choices() {
        promise = 3;
        LeftUndoes x = people(2, 1, 5, 2, 2, 9);
        x.deed(1, 0, 6, -1);
        x.deed(0, 0, 6, -1);
        x.deed(0, 1, 1, -1);
        x.deed(0, 0, 2, -1);
        x.deed(0, 0, 1, -1);
        due("CHOICE of what is open", x.personOf(0, 5), 10);
        years(x, 2);
        due("weights", x.personOf(0, 3), 10);
        due("the one DUE first, the least, not too heavy", x.personOf(0, 5), 3);
        due("another one's, not DUE", x.personOf(1, 5), 10);
        years(x, 1);
        due("the next, as 3 is undone", x.personOf(0, 5), 4);
        years(x, 1);
        due("the one DUE later", x.personOf(0, 5), 2);
        years(x, 1);
        due("what is too heavy stays", x.personOf(0, 5), 10);
        due("weights", x.personOf(0, 3), 6);
    }

    private static void changes() {
        promise = 4;
        LeftUndoes x = single();
        int[][] bad = {{1, 1, 1}, {-1, 1, 1}, {0, 0, 1}, {0, 3, 1}, {0, 1, 0}, {0, 1, 10}, {0, 2, 0}, {0, 2, 10}, {0, LEAST, 5}};
        for (int[] b : bad) due("change, bad", x.change(b[0], b[1], b[2]), BAD);
        due("DUE", x.deedOf(0, 5), 2);
        due("change GRACE", x.change(0, 1, 9), 1);
        due("GRACE", x.personOf(0, 1), 9);
        due("DUE", x.deedOf(0, 5), 18);
        due("change GRACE", x.change(0, 1, 1), 9);
        due("change STRENGTH", x.change(0, 2, 2), 9);
        due("STRENGTH", x.personOf(0, 2), 2);
        due("GRACE", x.personOf(0, 1), 1);
        due("never undone now", x.until(0), NONE);
        due("change STRENGTH", x.change(0, 2, 3), 2);
        due("undone again", x.until(0), 2);
    }

    private static void remakes() {
        promise = 5;
        LeftUndoes x = single();
        int[][] bad = {{1, 1}, {-1, 1}, {0, 0}, {0, 6}, {0, MOST}};
        for (int[] b : bad) due("remake, bad", x.remake(b[0], b[1]), BAD);
        int[] terms = {1, 2, 1, 3, 12};
        for (int kind = 1; kind <= 5; kind++) {
            due("remake", x.remake(0, kind), kind == 1 ? 2 : kind - 1);
            due("KIND", x.personOf(0, 0), kind);
            due("DUE", x.deedOf(0, 5), terms[kind - 1]);
            due("GRACE", x.personOf(0, 1), 1);
            due("STRENGTH", x.personOf(0, 2), 9);
        }
        due("remake, the same", x.remake(0, 5), 5);
    }

    private static void deeds() {
        promise = 6;
        LeftUndoes x = people(1, 1, 1, 2, 1, 1);
        int[][] bad = {{2, 0, 1, -1}, {-1, 0, 1, -1}, {0, -1, 1, -1}, {0, 16, 1, -1}, {0, 0, 0, -1}, {0, 0, 10, -1},
            {0, 0, 1, -2}, {0, 0, 1, MOST}, {0, LEAST, 1, -1}};
        for (int[] b : bad) due("deed, bad", x.deed(b[0], b[1], b[2], b[3]), BAD);
        due("deed, needs itself", x.deed(0, 0, 1, 0), BAD);
        due("deed", x.deed(0, 15, 9, -1), 0);
        due("deed", x.deed(1, 0, 1, 0), 1);
        due("deed, needs what isn't there", x.deed(1, 0, 1, 2), BAD);
        years(x, 3);
        due("deed of a YEAR that went by", x.deed(1, 2, 1, -1), STATE);
        due("deed of the YEAR that comes", x.deed(1, 3, 1, 1), 2);
        for (int d = 3; d < 10; d++) due("deed", x.deed(1, 3 + d % 2, d - 2, d - 1), d);
        due("deed, eleventh", x.deed(1, 3, 1, -1), FULL);
        due("full is ahead of the YEAR", x.deed(1, 0, 1, -1), FULL);
        for (int[] b : bad) due("bad is ahead of full", x.deed(b[0], b[1], b[2], b[3]), BAD);
        due("bad is ahead of the YEAR", x.deed(0, 0, 0, -1), BAD);
        due("many(2)", x.many(2), 10);
    }

    private static void deedsOf() {
        promise = 7;
        LeftUndoes x = family();
        int[] dues = {7, 10, 9, 9, 18, 7};
        for (int p = 0; p < 6; p++) {
            x.deed(p, 4, p + 2, p - 1);
            int[] got = new int[6];
            for (int what = 0; what < 6; what++) got[what] = x.deedOf(p, what);
            dueAll("deedOf " + p, got, p, 4, p + 2, p - 1, 0, dues[p]);
        }
        int[][] bad = {{6, 0}, {-1, 0}, {0, 6}, {0, -1}, {MOST, 0}, {0, LEAST}};
        for (int[] b : bad) due("deedOf, bad", x.deedOf(b[0], b[1]), BAD);
        LeftUndoes y = chain();
        years(y, 1);
        dueAll("how", new int[] {y.deedOf(0, 4), y.deedOf(1, 4), y.deedOf(2, 4), y.deedOf(3, 4)}, 1, 1, 0, 4);
        years(y, 1);
        dueAll("how", new int[] {y.deedOf(0, 4), y.deedOf(1, 4), y.deedOf(2, 4), y.deedOf(3, 4)}, 2, 3, 3, 4);
    }

    private static void end() {
        promise = 8;
        LeftUndoes x = weak(5);
        due("ends(0)", x.ends(0), BAD);
        due("ends(17)", x.ends(17), BAD);
        due("ends(16)", x.ends(16), 12);
        due("ends(1)", x.ends(1), 16);
        due("ends(5)", x.ends(5), 1);
        years(x, 3);
        due("ends(2)", x.ends(2), STATE);
        due("ends(0), bad ahead of it", x.ends(0), BAD);
        due("ends(3)", x.ends(3), 5);
        due("OVER", x.state(3), 1);
        due("ends(4)", x.ends(4), 3);
        due("not OVER", x.state(3), 0);
    }

    private static void anews() {
        promise = 9;
        LeftUndoes x = chain();
        x.ends(7);
        x.seed(3);
        years(x, 2);
        due("SCORE", x.state(2), 9);
        due("anew()", x.anew(), 2);
        dueAll("state", states(x), 0, 7, 0, 0);
        dueAll("standing", deeds(x), 15, 0, 0, 0, 0);
        due("anew()", x.anew(), 0);
        due("z is as it was", x.seed(1), 3);
        due("year() again", x.year(), 9);
    }

    private static void states() {
        promise = 10;
        LeftUndoes x = weak(5);
        years(x, 2);
        dueAll("state", states(x), 2, 12, 10, 0);
        years(x, 10);
        dueAll("state", states(x), 12, 12, 20, 1);
        due("state(4)", x.state(4), BAD);
        due("state(-1)", x.state(-1), BAD);
    }

    private static void feeds() {
        promise = 11;
        LeftUndoes x = new LeftUndoes();
        due("feed(0, 0)", x.feed(0, 0), BAD);
        due("feed(0, 9)", x.feed(0, 9), BAD);
        due("feed(0, -1)", x.feed(0, LEAST), BAD);
        for (int k = 1; k < 25; k++) due("feed", x.feed(-1L, 8), 8 * k);
        due("feed", x.feed(7, 7), 199);
        due("feed, two more", x.feed(7, 2), FULL);
        due("feed, bad ahead of full", x.feed(7, 9), BAD);
        due("many(5)", x.many(5), 199);
        due("feed, one more", x.feed(7, 1), 200);
        due("feed, full", x.feed(7, 1), FULL);
        due("many(5)", x.many(5), 200);
        due("rules()", x.rules(), -100);
        due("many(5)", x.many(5), 0);
        // "hand spa" and "re;", the lowest byte first; bytes above n count nothing
        x.feed(0x61707320646e6168L, 8);
        due("feed", x.feed(0x1111113b6572L, 3), 11);
        due("rules()", x.rules(), 1);
    }

    private static void ruleTexts() {
        promise = 12;
        Object[][] texts = {{"", 0}, {"   ", 0}, {"hand spare;", 1}, {" hand  spare ; ", 1}, {"handspare;", -100},
            {"hand early5;", 1}, {"hand early 99;", 1}, {"hand early 0;", 1}, {"hand early 100;", -111}, {"hand late 100;", -110},
            {"hand early 0099;", 1}, {"hand early 00099;", -111}, {"hand early 9999;", -111}, {"hand early;", -110},
            {"hand early x;", -111}, {"hand early -1;", -111}, {"hand late", -109}, {"hand late ", -110}, {"hand late 3", -111},
            {"hand", -104}, {"hand ", -105}, {"hand;", -104}, {"hand spare", -110}, {"hand spare; ;", -112}, {"hand spare 3;", -111},
            {"Hand spare;", -100}, {"left spare;", -100}, {"if", -100}, {"7", -100}, {"hand hand spare;", -105},
            {"clasped early 1;forger late 2;twin spare;slow spare;heir spare;hand spare;", 6}, {"hand spare;hand", -115},
            {"\thand spare;", -100}, {"hand\u00e9spare;", -104}, {"hand spare\u00bb", -110}, {"hand\nspare;", -104},
            {"hand if year<3 spare;", 1}, {"hand if year < 3spare;", 1}, {"hand if 9999>year spare;", 1}, {"hand if 1=1 spare;", 1},
            {"hand if year<10000 spare;", -113}, {"hand if 00001<year spare;", -108}, {"hand if year spare;", -113},
            {"hand if stands=grace and strength>number or year<0 late 1;", 1}, {"hand if year<3 and spare;", -119},
            {"hand if year<3 or or", -118}, {"hand if year<3 not", -115}, {"hand if year<3 grace", -115}, {"hand if spare;", -108},
            {"hand if (((year=1))) spare;", 1}, {"hand if ((((year=1)))) spare;", -111}, {"hand if (((1=1)and(1=1))) spare;", 1}, {"hand if (((1=1)and((1=1)))) spare;", -119},
            {"hand if ((1=1)and((1=1)or(1=2)))and(1=1) spare;", 1}, {"hand if (((1=1)))or(((1=1))) spare;", 1},
            {"hand if not not (year=1 or not grace>2) and stands=0 spare;", 1}, {"hand if (year=1)) spare;", -116},
            {"hand if (year=1 spare;", -116}, {"hand if (year)=1 spare;", -113}, {"hand if not spare;", -112}, {"hand if () spare;", -109},
            {"hand if year==1 spare;", -113}, {"hand if year<=1 spare;", -113}, {"hand if foo=1 spare;", -108}, {"hand if year=foo", -113},
            {"hand if year=", -113}, {"hand if (", -109}, {"hand if not", -111}, {"hand if year=1", -114}, {"hand if", -107},
            {"hand if hand=1 spare;", -108}, {"hand spare if year=1;", -111}};
        for (Object[] t : texts) due("rules() of «" + t[0] + "»", told(new LeftUndoes(), (String) t[0]), (Integer) t[1]);
        String eight = "hand spare;".repeat(8);
        LeftUndoes x = new LeftUndoes();
        due("eight RULES", told(x, eight + " "), 8);
        due("the ninth one", told(x, eight + " hand spare;"), -189);
        due("the ninth one, no NAME of a KIND", told(x, eight + "x"), -188);
        due("RULES stay behind a FAULT", x.many(1), 8);
        due("THE TAPE is used up", x.many(5), 0);
        due("none, in place of all", x.rules(), 0);
        due("many(1)", x.many(1), 0);
    }

    /** Of a twin (number 1, GRACE 2, STRENGTH 5) in YEAR 4, whose DEEDS that STAND weigh 7: its CHOICE is 0, if it isn't spared. */
    private static LeftUndoes inYear4() {
        LeftUndoes x = people(1, 1, 1, 3, 2, 5);
        x.deed(1, 1, 3, -1);
        x.deed(1, 3, 4, -1);
        years(x, 4);
        return x;
    }

    private static void conditions() {
        promise = 12;
        LeftUndoes x = inYear4();
        due("without RULES", x.personOf(1, 5), 0);
        String[] hold = {"year=4", "year>3", "year<5", "stands=7", "grace=2", "strength=5", "number=1", "4=year", "3<4", "year>number",
            "not year=5", "not not year=4", "1=2 or 1=1", "1=1 or 1=2 and 1=3", "1=2 and 1=3 or 1=1", "not 1=2 and 1=1",
            "not (1=1 and 1=2)", "(1=1 or 1=2) and 1=1", "not not not 1=2", "1=1 and 1=1 and 1=1", "1=2 or 1=3 or 1=1",
            "not (not (not (1=2)))", "(0=1 or (2=2 and not (3=4)))", "9999>9998", "strength=0005", "1=1 and (1=2 or 1=1)"};
        String[] fail = {"year=3", "year>4", "year<4", "stands=6", "stands<7", "grace=1", "strength>5", "number=0", "4<year", "not year=4",
            "1=1 and 1=2", "(1=1 or 1=2) and 1=3", "not 1=1 and 1=1", "not 1=1 or 1=2", "not (1=2 or 1=1)", "1=2 or 1=1 and 1=3",
            "1=1 and 1=1 and 1=2", "1=2 and 1=1 or 1=3", "not not 1=2", "((1=1) and (1=2))"};
        for (String c : hold) {
            due("rules", told(x, "hand if " + c + " spare;"), 1);
            due("CHOICE if " + c, x.personOf(1, 5), 10);
        }
        for (String c : fail) {
            due("rules", told(x, "hand if " + c + " spare;"), 1);
            due("CHOICE if " + c, x.personOf(1, 5), 0);
        }
    }

    private static void ruleEffects() {
        promise = 12;
        LeftUndoes x = inYear4();
        Object[][] texts = {{"hand spare;", 10}, {"twin spare;", 10}, {"forger spare;", 10}, {"clasped spare;", 0}, {"slow spare;", 0},
            {"heir spare;", 0}, {"late 0;", 0}, {"twin late 0;", 0}, {"twin late 1;", 10}, {"forger early 0; hand spare;", 0},
            {"hand spare; twin early 0;", 10}, {"twin if year=3 spare; forger early 0; hand spare;", 0}, {"slow spare; hand spare;", 10}};
        for (Object[] t : texts) {
            x.rules();
            told(x, (String) t[0]);
            due("CHOICE by " + t[0], x.personOf(1, 5), (Integer) t[1]);
        }
        x.rules();
        x.year();
        due("YEAR 4 undid 0", x.standing(2), 1);
        due("1 is DUE in 6", x.personOf(1, 5), 10);
        told(x, "forger early 0;");
        due("early 0", x.personOf(1, 5), 10);
        told(x, "forger early 1;");
        due("early 1", x.personOf(1, 5), 1);
        LeftUndoes y = single();
        told(y, "hand late 3;");
        due("until(0)", y.until(0), 5);
        told(y, "hand early 2;");
        due("undone in the YEAR in which it is done", y.until(0), 0);
        due("on(1)", y.on(1), 0);
        told(y, "hand early 1;");
        due("until(0)", y.until(0), 1);
        told(y, "forger spare;");
        due("until(0)", y.until(0), NONE);
        told(y, "twin spare;");
        due("until(0)", y.until(0), 2);
        told(y, "hand late 99;");
        due("until(0)", y.until(0), NONE);
        told(y, "hand if year<4 spare;");
        due("the FACT is the YEAR that goes by", y.until(0), 4);
        LeftUndoes z = people(1, 1, 9);
        z.deed(0, 0, 2, -1);
        z.deed(0, 0, 3, -1);
        told(z, "hand if stands<5 spare;");
        years(z, 2);
        due("stands tells what STANDS by then", z.standing(1), 2);
    }

    private static void yearsGoBy() {
        promise = 13;
        LeftUndoes x = chain();
        due("year()", x.year(), 9);
        dueAll("standing", deeds(x), 4, 3, 0, 0, 8);
        due("year()", x.year(), 0);
        dueAll("standing", deeds(x), 0, 0, 1, 6, 8);
        dueAll("state", states(x), 2, 12, 9, 0);
        LeftUndoes y = weak(5);
        for (int k = 0; k < 12; k++) due("year() " + k, y.year(), k <= 3 ? 5 : 0);
        due("year(), OVER", y.year(), STATE);
        dueAll("state", states(y), 12, 12, 20, 1);
        // what the first of PEOPLE undoes, the next one no longer has; each undoes one a YEAR
        LeftUndoes z = people(1, 1, 9, 1, 1, 9);
        z.deed(0, 0, 1, -1);
        z.deed(0, 0, 2, -1);
        z.deed(1, 0, 3, 0);
        z.deed(1, 0, 4, -1);
        due("year()", z.year(), 10);
        due("year()", z.year(), 2);
        dueAll("standing", deeds(z), 0, 2, 9, 4, 0);
        due("year(), clasped and PULL 0", z.year(), 0);
        dueAll("standing", deeds(z), 0, 2, 9, 4, 0);
        due("year()", z.year(), 0);
        dueAll("standing", deeds(z), 0, 0, 11, 4, 0);
        // a NEED done later, and one that no longer STANDS
        LeftUndoes w = people(2, 1, 9);
        w.deed(0, 1, 1, -1);
        w.deed(0, 0, 1, 0);
        w.deed(0, 4, 1, 0);
        years(w, 5);
        dueAll("standing", deeds(w), 0, 0, 1, 0, 6);
    }

    private static void sets() {
        promise = 14;
        LeftUndoes x = chain();
        due("standing(-1)", x.standing(-1), BAD);
        due("standing(5)", x.standing(5), BAD);
        dueAll("standing", deeds(x), 15, 0, 0, 0, 0);
        for (int d = 4; d < 10; d++) x.deed(0, 5, 1, -1);
        due("standing(0)", x.standing(0), 1023);
    }

    private static void rest() {
        promise = 15;
        LeftUndoes x = chain();
        x.deed(0, 11, 7, -1);
        x.deed(0, 11, 1, -1);
        x.deed(1, 12, 9, -1);
        due("leaves(0)", x.leaves(0), 8);
        due("leaves(1)", x.leaves(1), 0);
        due("leaves(2)", x.leaves(2), BAD);
        due("leaves(-1)", x.leaves(-1), BAD);
        dueAll("state", states(x), 0, 12, 0, 0);
        dueAll("standing", deeds(x), 127, 0, 0, 0, 0);
        due("leaves, overdue too", weak(5).leaves(0), 5);
        promise = 16;
        due("on(0)", x.on(0), 0);
        due("on(1)", x.on(1), 9);
        due("on(2)", x.on(2), 9);
        due("on(12)", x.on(12), 17);
        due("on(16)", x.on(16), 17);
        due("on(17)", x.on(17), BAD);
        due("on(-1)", x.on(-1), BAD);
        x.ends(16);
        due("on(16): 10 in 12, 9 in 13 and 14", x.on(16), 17 + 10 + 9 + 9);
        LeftUndoes y = weak(5);
        years(y, 2);
        due("on(1)", y.on(1), 5);
        due("on(5)", y.on(5), 10);
        dueAll("state", states(y), 2, 12, 10, 0);
        y.ends(2);
        due("on(5), OVER", y.on(5), 0);
    }

    private static void untils() {
        promise = 17;
        LeftUndoes x = chain();
        int[] got = {x.until(0), x.until(1), x.until(2), x.until(3), x.until(4), x.until(-1)};
        dueAll("until", got, 1, 1, 1, NONE, BAD, BAD);
        x.ends(1);
        due("until(0), OVER ahead of it", x.until(0), NONE);
        x.ends(9);
        years(x, 2);
        got = new int[] {x.until(0), x.until(1), x.until(2), x.until(3)};
        dueAll("until, so by now", got, NONE, NONE, NONE, NONE);
        due("until, never", weak(5).until(0), NONE);
    }

    private static void overdues() {
        promise = 18;
        LeftUndoes x = weak(5);
        due("overdue()", x.overdue(), 1);
        x.ends(4);
        due("overdue(), DUE in the last YEAR", x.overdue(), 0);
        x.ends(5);
        due("overdue()", x.overdue(), 1);
        x.ends(12);
        years(x, 5);
        x.ends(5);
        due("overdue(), OVER", x.overdue(), 1);
        LeftUndoes y = people(2, 1, 9, 4, 1, 1, 4, 2, 1, 4, 9, 1);
        for (int p = 0; p < 4; p++) y.deed(p, 0, 1, -1);
        due("overdue()", y.overdue(), 6);
        due("state(0)", y.state(0), 0);
    }

    private static void fallen() {
        promise = 19;
        LeftUndoes x = chain();
        due("falls(4)", x.falls(4), BAD);
        due("falls(-1)", x.falls(-1), BAD);
        due("falls, OPEN", x.falls(0), STATE);
        years(x, 1);
        due("falls(0)", x.falls(0), 2);
        due("falls(1)", x.falls(1), 0);
        due("falls, FAILED", x.falls(3), STATE);
        dueAll("standing", deeds(x), 4, 3, 0, 0, 8);
        years(x, 1);
        due("falls, UNDONE", x.falls(0), STATE);
        due("falls, FELL", x.falls(1), STATE);
        LeftUndoes y = people(1, 1, 2, 2, 9, 9);
        y.deed(0, 0, 2, -1);
        y.deed(1, 0, 1, 0);
        y.deed(1, 0, 1, -1);
        y.deed(1, 0, 1, 2);
        y.deed(1, 0, 1, 3);
        y.deed(1, 0, 1, 2);
        years(y, 2);
        due("1 FELL", y.standing(3), 2);
        due("what falls with it, not what FELL", y.falls(2), 8 + 16 + 32);
        due("falls(3)", y.falls(3), 16);
    }

    private static void bestOnes() {
        promise = 20;
        LeftUndoes x = weak(5);
        due("graceFor(0)", x.graceFor(0), 9);
        x.ends(8);
        due("graceFor(0)", x.graceFor(0), 5);
        x.ends(4);
        due("graceFor(0), all alike", x.graceFor(0), 1);
        due("graceFor(1)", x.graceFor(1), BAD);
        due("graceFor(-1)", x.graceFor(-1), BAD);
        due("GRACE", x.personOf(0, 1), 1);
        due("DUE", x.deedOf(0, 5), 3);
        years(x, 4);
        due("graceFor, OVER", x.graceFor(0), 1);
        promise = 21;
        LeftUndoes y = weak(4);
        due("strengthFor(0)", y.strengthFor(0), 8);
        due("STRENGTH", y.personOf(0, 2), 3);
        due("strengthFor(1)", y.strengthFor(1), BAD);
        due("strengthFor(-1)", y.strengthFor(-1), BAD);
        y.ends(4);
        due("strengthFor(0), nothing OVERDUE", y.strengthFor(0), 1);
        due("strengthFor, none", weak(5).strengthFor(0), NONE);
        LeftUndoes z = people(4, 1, 1, 2, 1, 1);
        z.deed(0, 0, 9, -1);
        z.deed(1, 0, 6, -1);
        due("strengthFor, of one alone", z.strengthFor(1), 6);
    }

    private static void loans() {
        promise = 22;
        LeftUndoes x = people(1, 1, 1, 1, 1, 1, 1, 1, 1, 1, 1, 1);
        int[][] bad = {{0, 0, 1}, {4, 0, 1}, {0, 4, 1}, {-1, 0, 1}, {0, -1, 1}, {0, 1, -1}, {0, 1, 100}, {0, 1, MOST}};
        for (int[] b : bad) due("owe, bad", x.owe(b[0], b[1], b[2]), BAD);
        due("owe(0, 1, 99)", x.owe(0, 1, 99), 0);
        due("owe(0, 1, 4)", x.owe(0, 1, 4), 99);
        due("owe(1, 0, 1)", x.owe(1, 0, 1), 0);
        promise = 23;
        due("owes(0, 1)", x.owes(0, 1), 4);
        due("owes(1, 0)", x.owes(1, 0), 1);
        due("owes(2, 0)", x.owes(2, 0), 0);
        for (int k = 0; k < 5; k++) due("owes, bad", x.owes(bad[k][0], bad[k][1]), BAD);
        promise = 24;
        x.owe(2, 1, 10);
        x.owe(1, 3, 7);
        int[] nets = {x.net(0), x.net(1), x.net(2), x.net(3), x.net(4), x.net(-1)};
        dueAll("net", nets, 9997, 10006, 9990, 10007, BAD, BAD);
        promise = 54;
        due("many(7)", x.many(7), 4);
        x.owe(1, 3, 0);
        due("many(7)", x.many(7), 3);
    }

    private static void rings() {
        promise = 25;
        LeftUndoes x = people(1, 1, 1, 1, 1, 1, 1, 1, 1, 1, 1, 1, 1, 1, 1, 1, 1, 1);
        due("ring, no LOANS", x.ring(0), NONE);
        for (int p = 0; p < 6; p++) x.owe(p, (p + 1) % 6, 1);
        due("ring of all", x.ring(0), 6);
        x.owe(2, 4, 1);
        due("ring by a shorter way", x.ring(0), 5);
        due("ring of who isn't on it", x.ring(3), 6);
        x.owe(4, 2, 1);
        int[] got = {x.ring(0), x.ring(1), x.ring(2), x.ring(3), x.ring(4), x.ring(5)};
        dueAll("ring", got, 5, 5, 2, 3, 2, 5);
        x.owe(5, 0, 0);
        due("ring, no way back", x.ring(0), NONE);
        due("ring, no way there", x.ring(5), NONE);
        due("ring(6)", x.ring(6), BAD);
        due("ring(-1)", x.ring(-1), BAD);
    }

    private static void paid() {
        promise = 26;
        LeftUndoes x = people(1, 1, 1, 1, 1, 1, 1, 1, 1, 1, 1, 1, 1, 1, 1, 1, 1, 1);
        due("payments()", x.payments(), 0);
        x.owe(0, 1, 5);
        due("one", x.payments(), 1);
        x.owe(1, 2, 5);
        due("one, by way of another one", x.payments(), 1);
        x.owe(2, 0, 5);
        due("none, in a ring", x.payments(), 0);
        x.owe(3, 4, 2);
        x.owe(0, 5, 3);
        due("two pairs", x.payments(), 2);
        x.owe(0, 4, 2);
        due("NETS -5 0 0 -2 4 3", x.payments(), 3);
        x.owe(3, 1, 4);
        due("NETS -5 4 0 -6 4 3", x.payments(), 4);
        x.owe(3, 2, 1);
        x.owe(1, 2, 9);
        due("NETS -5 0 5 -7 4 3: two groups", x.payments(), 3);
    }

    private static void bestPlans() {
        LeftUndoes x = single();
        promise = 27;
        int[] best = {x.best(0), x.best(1), x.best(2), x.best(3), x.best(4), x.best(5), x.best(-1)};
        dueAll("best", best, 0, 3, 6, 9, 9, BAD, BAD);
        promise = 28;
        int[] acts = {x.ith(4, 0), x.ith(4, 1), x.ith(4, 2), x.ith(4, 3), x.ith(4, 4), x.ith(4, -1), x.ith(5, 0), x.ith(-1, 0)};
        dueAll("ith", acts, 0, 0, 1, 0, BAD, BAD, BAD, BAD);
        due("ith(2, 1)", x.ith(2, 1), 0);
        due("ith(2, 2)", x.ith(2, 2), NONE);
        due("ith(0, 3)", x.ith(0, 3), NONE);
        promise = 29;
        int[] ways = {x.ways(0), x.ways(1), x.ways(2), x.ways(3), x.ways(4), x.ways(5), x.ways(-1)};
        dueAll("ways", ways, 1, 2, 4, 4, 8, BAD, BAD);
        promise = 30;
        int[] lives = {x.life(0, 0), x.life(0, 1), x.life(1, 1), x.life(2, 1), x.life(3, 1), x.life(4, 1), x.life(4, 0)};
        dueAll("life", lives, 0, NONE, 0, 0, 1, 2, 0);
        int[] bad = {x.life(5, 0), x.life(-1, 0), x.life(1, 2), x.life(1, -1), x.life(1, LEAST)};
        dueAll("life, bad", bad, BAD, BAD, BAD, BAD, BAD);
        promise = 31;
        x.deed(0, 2, 1, -1);
        x.deed(0, 3, 1, -1);
        int[] bars = {x.bars(4, 7), x.bars(3, 7), x.bars(3, 3), x.bars(2, 6), x.bars(0, 7), x.bars(0, 0), x.bars(4, 8), x.bars(5, 0),
            x.bars(-1, 0), x.bars(4, -1)};
        dueAll("bars", bars, NONE, 2, NONE, 1, 0, NONE, BAD, BAD, BAD, BAD);
        LeftUndoes y = single();
        years(y, 2);
        y.ends(3);
        promise = 28;
        due("best(4), one YEAR", y.best(4), 3);
        due("ith(4, 0)", y.ith(4, 0), 1);
        due("ith(4, 1)", y.ith(4, 1), NONE);
        due("ways(4)", y.ways(4), 1);
        y.ends(2);
        due("best(4), OVER", y.best(4), 0);
        due("ith(4, 0), OVER", y.ith(4, 0), NONE);
        due("ways(4), OVER", y.ways(4), 1);
        due("life(4, 1), OVER", y.life(4, 1), 0);
        due("state(0)", y.state(0), 2);
    }

    private static void bestOfTwo() {
        promise = 28;
        // who has the heavier one is held; where they are alike, nobody ahead of somebody
        LeftUndoes x = people(1, 1, 9, 1, 1, 9);
        x.deed(0, 0, 2, -1);
        x.deed(1, 0, 3, -1);
        due("best(2)", x.best(2), 8);
        due("ith(2, 0)", x.ith(2, 0), 0);
        due("ith(2, 1)", x.ith(2, 1), 2);
        promise = 29;
        due("ways(2)", x.ways(2), 3);
        promise = 30;
        due("life(2, 3): one alone is held", x.life(2, 3), NONE);
        due("life(2, 2)", x.life(2, 2), 1);
        promise = 31;
        due("bars(2, 3): each STANDS behind some", x.bars(2, 3), NONE);
    }

    private static void games() {
        LeftUndoes x = people(1, 1, 9);
        x.deed(0, 0, 3, -1);
        promise = 32;
        int[] values = {x.game(1), x.game(2), x.game(3), x.game(4), x.game(0), x.game(5), x.game(-1)};
        dueAll("game", values, 3, 3, 3, 3, BAD, BAD, BAD);
        due("best(2) is more", x.best(2), 6);
        promise = 33;
        due("play(2)", x.play(2), 0);
        due("play(0)", x.play(0), BAD);
        due("play(5)", x.play(5), BAD);
        x.year();
        due("game(1)", x.game(1), 3);
        due("play(1)", x.play(1), 1);
        due("best is as the game is", x.ith(1, 0), 1);
        x.ends(1);
        promise = 32;
        due("game(2), OVER", x.game(2), 0);
        promise = 33;
        due("play(2), OVER", x.play(2), NONE);
        due("play(0), bad ahead of OVER", x.play(0), BAD);
        promise = 32;
        LeftUndoes y = single();
        int[] three = {y.game(1), y.game(2), y.game(3), y.game(4)};
        dueAll("the third YEAR is the first one's", three, 3, 6, 9, 9);
        LeftUndoes z = people(4, 2, 9, 1, 1, 9);
        z.deed(0, 0, 4, -1);
        z.deed(1, 2, 1, -1);
        z.deed(1, 3, 2, -1);
        // DEED 0 is DUE in 4; 1 in 3, when the other one is in turn: 4, 4, 5, 4 + 2
        due("game(4)", z.game(4), 19);
        due("best(4)", z.best(4), 20);
    }

    /** The second one gains by a HELD one: if 0 undoes nothing, 1 has enough to undo the heavy one by its rule. */
    private static void secondOneHolds() {
        promise = 32;
        LeftUndoes x = people(1, 1, 9, 1, 1, 9);
        x.deed(0, 0, 1, -1);
        x.deed(1, 0, 9, -1);
        x.deed(1, 0, 1, 0);
        told(x, "hand if number=0 early 0; hand if stands=10 and year=1 early 9; hand spare;");
        // YEAR 0: 11. YEAR 1, nobody or 1 held: 0 undoes 0, 2 falls, 9 are left; 0 held: 1 undoes 1, 2 are left
        due("game(2)", x.game(2), 11 + 2);
        due("best(2)", x.best(2), 11 + 9);
        due("ways(2)", x.ways(2), 3 * 2);
        x.year();
        due("game(1)", x.game(1), 9);
        promise = 33;
        due("play(1)", x.play(1), 0);
    }

    private static void reports() {
        promise = 34;
        LeftUndoes x = new LeftUndoes();
        int[][] bad = {{0, 0, 0, 0}, {10, 0, 0, 0}, {1, -1, 0, 0}, {1, 16, 0, 0}, {1, 0, -1, 0}, {1, 0, 32, 0}, {1, 0, 0, -1}, {1, 0, 0, 2}};
        for (int[] b : bad) due("report, bad", x.report(b[0], b[1], b[2], b[3]), BAD);
        promise = 36;
        due("span(0), no REPORTS", x.span(0), 405);
        int[] first = {x.span(1), x.span(2), x.span(3), x.span(4), x.span(-1)};
        dueAll("span", first, 1, 1, 1, BAD, BAD);
        promise = 34;
        due("report", x.report(1, 15, 31, 0), 0);
        promise = 36;
        // forgers and twins with GRACE 9, heirs from 6 on: DUE behind 31; slow ones with STRENGTH 1 have PULL 0
        due("span(0)", x.span(0), 9 + 9 + 36 + 9);
        int[] least = {x.span(1), x.span(2), x.span(3)};
        dueAll("span", least, 2, 9, 1);
        x.forget();
        x.report(1, 15, 31, 1);
        due("span(0), the others", x.span(0), 405 - 63);
        x.forget();
        // PULL 8 or 9 in YEAR 3 at the latest, none in 2: clasped GRACE 1 to 3, forgers 1; twins from STRENGTH 7, GRACE 1, 2
        x.report(8, 0, 3, 1);
        due("span(0)", x.span(0), 2 * 3 + 2 + 3 * 2);
        x.report(8, 0, 2, 0);
        // left: clasped GRACE 2 (PULL 0 in 2) and 3; twins with GRACE 2
        due("span(0)", x.span(0), 2 * 2 + 3);
        int[] span = {x.span(1), x.span(2), x.span(3)};
        dueAll("span", span, 1, 2, 8);
        x.report(9, 0, 31, 0);
        dueAll("span", new int[] {x.span(0), x.span(1), x.span(2), x.span(3)}, 3, 1, 2, 8);
        x.forget();
        // an heir's PULL is 9 in YEAR 9, not in 8: done in 0, by 9 it is DUE with no GRACE (12 is the first)
        x.report(9, 0, 12, 1);
        x.report(9, 0, 11, 0);
        x.report(9, 1, 12, 0);
        // clasped: 9, STRENGTH 9, none (DUE 9 undoes in 9); forgers: GRACE 6; twins none (odd); heirs: GRACE 1
        due("span(0)", x.span(0), 1 + 9);
        due("span(1)", x.span(1), 2);
    }

    private static void liars() {
        promise = 35;
        LeftUndoes x = new LeftUndoes();
        due("forget()", x.forget(), 0);
        for (int r = 0; r < 6; r++) due("report", x.report(1, 0, 0, 0), r);
        promise = 34;
        due("report, full", x.report(1, 0, 0, 0), FULL);
        due("report, bad ahead of full", x.report(1, 0, 0, 2), BAD);
        promise = 37;
        due("liar(), all FIT", x.liar(), NONE);
        promise = 35;
        due("forget()", x.forget(), 6);
        due("many(3)", x.many(3), 0);
        promise = 37;
        due("liar(), no REPORTS", x.liar(), NONE);
        x.report(9, 0, 0, 0);
        x.report(1, 0, 0, 1);
        x.report(1, 0, 0, 0);
        due("span(0)", x.span(0), 0);
        for (int what = 1; what < 4; what++) due("span, none FITS", x.span(what), NONE);
        due("liar()", x.liar(), 1);
        x.report(2, 0, 0, 1);
        due("liar(), two of them", x.liar(), NONE);
        x.forget();
        x.report(1, 0, 0, 0);
        x.report(1, 0, 20, 1);
        x.report(1, 0, 20, 0);
        due("liar(), either of two: the least", x.liar(), 1);
    }

    private static void lots() {
        LeftUndoes x = people(1, 1, 9, 1, 1, 9);
        x.deed(0, 0, 4, -1);
        x.deed(1, 0, 1, -1);
        promise = 38;
        due("seed(0)", x.seed(0), 1);
        promise = 39;
        due("lot()", x.lot(), 5);
        // z 12345, z >>> 16 is 0: nobody is HELD
        promise = 38;
        due("seed(2)", x.seed(2), 12345);
        x.keep();
        promise = 39;
        // z is 2207042835 - 2^32; z >>> 16 is 33676, 1 by 3: the first one is HELD
        due("lot()", x.lot(), 4);
        due("standing(1)", x.standing(1), 1);
        due("state(2)", x.state(2), 9);
        due("z", x.seed(5), (int) 2207042835L);
        x.ends(2);
        due("lot(), OVER", x.lot(), STATE);
        due("z is as it was", x.seed(5), 5);
        promise = 40;
        x.again();
        int[] often = {x.often(1, 4), x.often(1, 5), x.often(1, 0), x.often(40, 0), x.often(40, 5)};
        dueAll("often", often, 1, 0, 1, 40, 0);
        int[] bad = {x.often(0, 0), x.often(41, 0), x.often(1, -1), x.often(1, 1000), x.often(-1, 0), x.often(1, 999)};
        dueAll("often, bad", bad, BAD, BAD, BAD, BAD, BAD, 0);
        due("z is as it was", x.seed(2), 2);
        dueAll("state", states(x), 1, 12, 5, 0);
        x.ends(1);
        due("often(7, 0), OVER", x.often(7, 0), 7);
        due("often(7, 1), OVER", x.often(7, 1), 0);
    }

    /** One YEAR is left: of n draws, those by which who would undo the DEED is HELD. */
    private static void oftenByHand() {
        promise = 40;
        LeftUndoes x = people(1, 1, 9);
        x.deed(0, 0, 3, -1);
        x.year();
        x.ends(2);
        int z = 1, held = 0;
        for (int n = 1; n <= 40; n++) {
            z = z * 1103515245 + 12345;
            if ((z >>> 16) % 2 == 1) held++;
            due("often(" + n + ", 3)", x.often(n, 3), held);
            due("often(" + n + ", 4)", x.often(n, 4), 0);
        }
    }

    private static void rowsProved() {
        LeftUndoes x = single();
        promise = 41;
        due("prove(5)", x.prove(5), BAD);
        due("prove(-1)", x.prove(-1), BAD);
        due("prove(3)", x.prove(3), 3);
        promise = 42;
        int[][] rows = {{0, 3, 1}, {0, 3, 1}, {1, 3, 1}};
        for (int k = 0; k < 3; k++) dueAll("row " + k, new int[] {x.row(k, 0), x.row(k, 1), x.row(k, 2)}, rows[k]);
        int[] none = {x.row(3, 0), x.row(-1, 0), x.row(0, 3), x.row(0, -1), x.row(LEAST, 0), x.row(0, MOST)};
        dueAll("row, none such", none, -9, -9, -9, -9, -9, -9);
        promise = 43;
        int[] no = {x.alterRow(3, 0, 1), x.alterRow(-1, 0, 1), x.alterRow(0, 3, 1), x.alterRow(0, -1, 1)};
        dueAll("alterRow, none such", no, -9, -9, -9, -9);
        due("alterRow(1, 1, -77)", x.alterRow(1, 1, -77), 3);
        due("row(1, 1)", x.row(1, 1), -77);
        promise = 44;
        due("judge()", x.judge(), 2);
        x.alterRow(1, 1, 3);
        due("judge()", x.judge(), 0);
        x.alterRow(2, 2, 0);
        due("judge(), the set", x.judge(), 3);
        x.alterRow(2, 2, 1);
        x.alterRow(0, 0, 2);
        due("judge(), no ACT", x.judge(), 1);
        x.alterRow(0, 0, -1);
        due("judge(), no ACT", x.judge(), 1);
        x.alterRow(0, 0, 1);
        due("judge(), another ACT that comes to the same", x.judge(), 0);
        x.ends(2);
        due("judge(), OVER ahead of the third", x.judge(), 3);
        x.ends(12);
        x.year();
        due("judge(), from how it is now", x.judge(), 2);
        promise = 41;
        due("prove(0)", x.prove(0), 0);
        due("many(4)", x.many(4), 0);
        due("judge(), no ROWS", x.judge(), 0);
        due("row(0, 0)", x.row(0, 0), -9);
        x.ends(3);
        due("prove(4), two YEARS", x.prove(4), 2);
        dueAll("row 1", new int[] {x.row(1, 0), x.row(1, 1), x.row(1, 2)}, 1, 3, 1);
        due("prove(9)", x.prove(9), BAD);
        due("many(4)", x.many(4), 2);
    }

    private static void sheets() {
        promise = 45;
        LeftUndoes x = new LeftUndoes();
        int[] bad = {x.sheet(4, 0, 1), x.sheet(-1, 0, 1), x.sheet(0, -2, 1), x.sheet(0, 5, 1), x.sheet(0, 0, 41), x.sheet(0, 0, MOST),
            x.sheet(0, 0, -1), x.sheet(0, 0, LEAST), x.sheet(0, 5, -1), x.sheet(4, -1, 0)};
        dueAll("sheet, bad", bad, BAD, BAD, BAD, BAD, BAD, BAD, BELOW, BELOW, BAD, BAD);
        due("item, still missing", x.item(0, 0, 0), NOTHING);
        due("sheet, missing", x.sheet(0, -1, 999), 1);
        due("sheet, missing", x.sheet(0, -1, -5), 1);
        due("sheet, empty", x.sheet(0, 2, 0), 1);
        due("item", x.item(0, 2, 0), OUTSIDE);
        promise = 46;
        due("write(4, 0, 0)", x.write(4, 0, 0), BAD);
        due("write(-1, 0, 0)", x.write(-1, 0, 0), BAD);
        due("write, missing", x.write(1, 0, 0), NOTHING);
        due("write, outside", x.write(0, 0, 0), OUTSIDE);
        int[] wants = {(byte) 70000, (short) 70000, 70000, 70000, 1};
        for (int sort = 0; sort < 5; sort++) {
            x.sheet(2, sort, 40);
            due("write", x.write(2, 0, 70000), 1);
            due("write", x.write(2, 39, -1), 1);
            due("write, outside", x.write(2, 40, 1), OUTSIDE);
            due("write, outside", x.write(2, -1, 1), OUTSIDE);
            due("write, outside", x.write(2, LEAST, 1), OUTSIDE);
            promise = 47;
            due("item, sort " + sort, x.item(2, sort, 0), wants[sort]);
            due("item, sort " + sort, x.item(2, sort, 39), sort == 4 ? 1 : -1);
            due("item, sort " + sort, x.item(2, sort, 1), 0);
            due("item, outside", x.item(2, sort, 40), OUTSIDE);
            due("item, outside", x.item(2, sort, -1), OUTSIDE);
            for (int as = 0; as < 5; as++) if (as != sort) due("item, another sort", x.item(2, as, 99), OTHER);
            promise = 46;
        }
        x.write(2, 0, 0);
        promise = 47;
        due("item, no more so", x.item(2, 4, 0), 0);
        int[] no = {x.item(4, 0, 0), x.item(-1, 0, 0), x.item(2, -1, 0), x.item(2, 5, 0), x.item(3, 0, 0), x.item(3, 5, 0)};
        dueAll("item, bad", no, BAD, BAD, BAD, BAD, NOTHING, BAD);
        promise = 45;
        x.sheet(2, 4, 2);
        due("all 0 again", x.item(2, 4, 0), 0);
        due("shorter now", x.item(2, 4, 2), OUTSIDE);
        x.sheet(2, 4, 40);
        due("all 0 again", x.item(2, 4, 39), 0);
    }

    private static void sheetActs() {
        promise = 48;
        LeftUndoes x = single();
        x.sheet(0, 0, 6);
        int[] acts = {0, 9, -1, 1, 1, 0};
        for (int k = 0; k < 6; k++) x.write(0, k, acts[k]);
        x.sheet(1, 1, 6);
        int[] bad = {x.goAll(4, 0, 1), x.goAll(-1, 0, 1), x.goAll(0, 0, 21), x.goAll(0, 0, -1), x.goAll(1, 0, 1), x.goAll(2, 0, 1),
            x.goAll(1, 0, 21), x.goAll(2, 9, -1), x.goAll(1, 0, 0), x.goAll(2, 0, 0)};
        dueAll("goAll, bad", bad, BAD, BAD, BAD, BAD, OTHER, NOTHING, BAD, BAD, OTHER, NOTHING);
        int[] outside = {x.goAll(0, 6, 1), x.goAll(0, -1, 3), x.goAll(0, MOST, 2), x.goAll(0, LEAST, 20)};
        dueAll("goAll, outside", outside, OUTSIDE, OUTSIDE, OUTSIDE, OUTSIDE);
        due("nothing done", x.state(0), 0);
        due("goAll of none", x.goAll(0, 99, 0), 0);
        promise = 49;
        int[] would = {x.wouldBe(0, 3, 3), x.wouldBe(0, 0, 1), x.wouldBe(0, 0, 2), x.wouldBe(0, 2, 1), x.wouldBe(0, 3, 4),
            x.wouldBe(0, 0, 7), x.wouldBe(0, 5, 1), x.wouldBe(0, 99, 0), x.wouldBe(0, -1, 1), x.wouldBe(0, MOST, 2)};
        dueAll("wouldBe", would, 6, 3, STATE, STATE, OUTSIDE, STATE, 3, 0, OUTSIDE, OUTSIDE);
        int[] no = {x.wouldBe(4, 0, 1), x.wouldBe(-1, 0, 1), x.wouldBe(0, 0, 21), x.wouldBe(0, 0, -1), x.wouldBe(1, 0, 1),
            x.wouldBe(2, 0, 1), x.wouldBe(2, 0, 21), x.wouldBe(1, 0, 0), x.wouldBe(2, 0, 0)};
        dueAll("wouldBe, bad", no, BAD, BAD, BAD, BAD, OTHER, NOTHING, BAD, OTHER, NOTHING);
        dueAll("state", states(x), 0, 12, 0, 0);
        promise = 48;
        due("goAll: 0, 1, 1 held", x.goAll(0, 0, 5), 9);
        dueAll("state", states(x), 3, 12, 9, 0);
        due("goAll, the last and outside", x.goAll(0, 4, 3), OUTSIDE);
        dueAll("state: two YEARS more", states(x), 5, 12, 9, 0);
        due("undone in the last", x.standing(2), 1);
        x.ends(6);
        promise = 49;
        due("wouldBe, OVER ahead of it", x.wouldBe(0, 3, 2), STATE);
        due("wouldBe", x.wouldBe(0, 3, 1), 0);
        promise = 48;
        due("goAll, OVER: left out", x.goAll(0, 3, 3), 0);
        dueAll("state", states(x), 6, 6, 9, 1);
        due("goAll, outside though OVER", x.goAll(0, 3, 4), OUTSIDE);
        x.sheet(3, 0, 40);
        x.anew();
        x.ends(16);
        due("goAll, 20 items, 16 YEARS", x.goAll(3, 20, 20), 6);
        due("state(0)", x.state(0), 16);
    }

    private static void shelves() {
        promise = 50;
        LeftUndoes x = family();
        int[] bad = {x.shelf(4, 0, 0), x.shelf(-1, 0, 0), x.shelf(0, -1, 0), x.shelf(0, 3, 0), x.shelf(0, 0, 6), x.shelf(0, 0, -1),
            x.shelf(0, 1, 4), x.shelf(0, 1, -1), x.shelf(4, 2, 0)};
        dueAll("shelf, bad", bad, BAD, BAD, BAD, BAD, BAD, BAD, BAD, BAD, BAD);
        due("shelf, nobody such", single().shelf(0, 0, 1), BAD);
        due("shelf, nothing", x.shelf(0, 2, 99), 1);
        due("shelf, missing", x.shelf(0, 1, 3), 1);
        promise = 51;
        due("taken", x.taken(0, 10), NOTHING);
        // as hand, clasped, forger, twin, slow, heir
        int[][] fits = {{1, 1, 0, 0, 0, 0}, {1, 0, 1, 0, 0, 0}, {1, 0, 1, 1, 0, 0}, {1, 0, 0, 0, 1, 0}, {1, 0, 0, 0, 1, 1}};
        for (int p = 0; p < 5; p++) {
            promise = 50;
            due("shelf", x.shelf(p % 4, 0, p), 1);
            promise = 51;
            for (int as = 0; as < 6; as++) due("taken " + p + " as " + as, x.taken(p % 4, as), fits[p][as] == 1 ? p : OTHER);
            for (int as = 10; as < 15; as++) due("taken " + p + " as " + as, x.taken(p % 4, as), OTHER);
        }
        for (int as : new int[] {-1, 6, 9, 15, LEAST, MOST}) due("taken as " + as, x.taken(0, as), BAD);
        due("taken(4, 0)", x.taken(4, 0), BAD);
        due("taken(-1, 0)", x.taken(-1, 0), BAD);
        for (int sort = 0; sort < 5; sort++) {
            x.sheet(1, sort, sort * 7);
            due("shelf", x.shelf(2, 1, 1), 1);
            for (int as = 0; as < 15; as++) {
                if (as > 5 && as < 10) continue;
                due("taken as " + as, x.taken(2, as), as == sort + 10 ? sort * 7 : OTHER);
            }
        }
        x.sheet(1, 0, 3);
        due("the row that it holds is the old one", x.taken(2, 14), 28);
        x.shelf(2, 2, 0);
        due("taken, nothing", x.taken(2, 14), NOTHING);
        x.shelf(0, 0, 3);
        x.remake(3, 3);
        due("taken, remade", x.taken(0, 2), 3);
        due("taken, remade", x.taken(0, 4), OTHER);
    }

    private static void actIs(LeftUndoes x, int p, int act, int v, int want, int... bodies) {
        x.shelf(1, 0, p);
        due("act " + act + " of " + p + " with " + v, x.act(1, act, v), want);
        dueAll("trace of act " + act + " of " + p, traced(x), bodies);
    }

    private static void acts() {
        promise = 52;
        LeftUndoes x = people(1, 3, 1, 1, 3, 1, 2, 5, 1, 3, 5, 1, 4, 6, 1, 5, 9, 1);
        actIs(x, 0, 0, 10, 7, 20, 10);
        actIs(x, 0, 2, -10, -1, 12);
        actIs(x, 1, 0, 10, 8, 20, 10);
        actIs(x, 1, 1, 10, 16, 11, 20, 10);
        actIs(x, 1, 2, 11, 1, 12);
        actIs(x, 1, 3, 10, 17, 13, 11, 20, 10);
        actIs(x, 2, 0, 10, 5, 10);
        actIs(x, 2, 1, 10, -10, 30, 11, 10);
        actIs(x, 2, 2, 10, 1, 12);
        actIs(x, 2, 3, 10, -12, 13, 30, 11, 10);
        actIs(x, 3, 0, 10, 15, 50, 10);
        actIs(x, 3, 1, 10, -30, 30, 11, 50, 10);
        actIs(x, 3, 2, 9, 1, 12);
        actIs(x, 3, 3, 10, -32, 51, 13, 30, 11, 50, 10, 12);
        actIs(x, 4, 0, 10, 4, 10);
        actIs(x, 4, 1, 10, 8, 11, 10);
        actIs(x, 4, 2, -10, -1, 40, 12);
        actIs(x, 4, 3, 10, 12, 13, 11, 10);
        actIs(x, 5, 0, 10, 1, 10);
        actIs(x, 5, 1, 10, 11, 60, 11, 10);
        actIs(x, 5, 2, 10, -1, 61, 40, 12, 10);
        actIs(x, 5, 3, 10, 14, 13, 60, 11, 10);
        actIs(x, 2, 1, LEAST, (int) -((LEAST - 5L) * 2), 30, 11, 10);
        actIs(x, 4, 2, MOST, (MOST + 5) % 2, 40, 12);
        x.change(3, 1, 2);
        actIs(x, 3, 2, LEAST, 0, 12);
        x.change(5, 1, 5);
        x.change(4, 1, 4);
        x.change(3, 1, 3);
        x.change(2, 1, 2);
        actIs(x, 5, 2, 10, PARTED, 61, 40, 12);
        actIs(x, 4, 2, 10, PARTED, 40, 12);
        actIs(x, 3, 3, 10, PARTED, 51, 13, 30, 11, 50, 10, 12);
        actIs(x, 3, 1, 10, -42, 30, 11, 50, 10);
        actIs(x, 2, 2, 0, PARTED, 12);
        actIs(x, 2, 3, 10, -16 ^ 2, 13, 30, 11, 10);
        due("act(1, 4, 0)", x.act(1, 4, 0), 0);
        due("no TRACE", x.many(6), 0);
        promise = 53;
        due("trace(0)", x.trace(0), NONE);
        promise = 52;
        int[][] none = {{1, -1}, {4, 0}, {-1, 0}, {0, 0}, {2, 1}};
        x.sheet(0, 0, 4);
        x.shelf(2, 1, 0);
        for (int[] a : none) {
            x.act(1, 0, 3);
            due("act, nothing to act", x.act(a[0], a[1], 3), 0);
            due("no TRACE", x.many(6), 0);
        }
        promise = 53;
        x.act(1, 1, 3);
        int[] trace = {x.trace(-1), x.trace(0), x.trace(2), x.trace(3), x.trace(MOST), x.trace(LEAST)};
        dueAll("trace", trace, NONE, 30, 10, NONE, NONE, NONE);
    }

    private static void counts() {
        promise = 54;
        LeftUndoes x = chain();
        x.report(1, 1, 1, 1);
        x.owe(0, 1, 3);
        told(x, "hand late 1; slow spare;");
        x.feed(0, 5);
        x.prove(3);
        x.shelf(0, 0, 1);
        x.act(0, 1, 1);
        int[] many = new int[8];
        for (int what = 0; what < 8; what++) many[what] = x.many(what);
        dueAll("many", many, 2, 2, 4, 1, 3, 5, 3, 1);
        due("many(8)", x.many(8), BAD);
        due("many(-1)", x.many(-1), BAD);
    }

    private static void kept() {
        LeftUndoes x = chain();
        promise = 56;
        due("again()", x.again(), NONE);
        x.owe(0, 1, 3);
        x.report(2, 3, 4, 1);
        told(x, "slow spare;");
        x.ends(9);
        x.seed(77);
        x.year();
        promise = 55;
        due("keep()", x.keep(), 1);
        x.person(5, 1, 1);
        x.change(0, 1, 9);
        x.change(1, 2, 9);
        x.remake(1, 5);
        x.deed(0, 6, 1, -1);
        x.owe(0, 1, 4);
        x.owe(2, 1, 4);
        x.owe(1, 2, 4);
        x.report(1, 1, 1, 1);
        x.forget();
        x.report(9, 9, 9, 0);
        told(x, "hand spare; hand spare; hand early 9;");
        x.ends(16);
        x.seed(5);
        years(x, 4);
        x.feed(0, 3);
        x.prove(2);
        x.sheet(0, 0, 5);
        x.shelf(0, 0, 2);
        x.shelf(1, 0, 1);
        x.act(1, 1, 3);
        promise = 56;
        due("again()", x.again(), 2);
        dueAll("state", states(x), 1, 9, 9, 0);
        dueAll("standing", deeds(x), 4, 3, 0, 0, 8);
        int[] many = new int[8];
        for (int what = 0; what < 8; what++) many[what] = x.many(what);
        dueAll("many", many, 2, 1, 4, 1, 2, 3, 3, 1);
        int[] of = {x.personOf(0, 1), x.personOf(1, 0), x.personOf(1, 2), x.deedOf(0, 5), x.deedOf(1, 5), x.owes(0, 1), x.owes(1, 0), x.seed(77)};
        dueAll("as it was", of, 1, 2, 2, 1, 2, 3, 0, 77);
        due("until(0): the RULES are those", x.until(0), 1);
        due("the REPORT is that", x.span(0) > 0 && x.span(0) < 405 ? 1 : 0, 1);
        due("a shelf with who isn't there", x.taken(0, 0), NOTHING);
        due("the SHEET stays", x.item(0, 0, 4), 0);
        due("a shelf with who is", x.taken(1, 2), 1);
        due("act of who isn't there", x.act(0, 0, 3), 0);
        due("person again", x.person(4, 1, 1), 2);
        due("with no LOANS", x.owes(2, 1) + x.owes(1, 2), 0);
        due("it is on the shelf again", x.taken(0, 4), 2);
        x.change(0, 1, 5);
        x.owe(0, 1, 9);
        due("again(), it stays kept", x.again(), 2);
        due("GRACE", x.personOf(0, 1), 1);
        due("owes", x.owes(0, 1), 3);
        x.year();
        promise = 55;
        due("keep(), in place of that", x.keep(), 1);
        x.anew();
        promise = 56;
        due("again()", x.again(), 2);
        due("state(0)", x.state(0), 2);
    }

    /** A forger's DEED of YEAR 15, DUE in 17, and one of YEAR 13, undone in 15; END is 16. */
    private static void farYears() {
        LeftUndoes x = people(2, 1, 9, 4, 1, 9);
        x.deed(0, 15, 6, -1);
        x.deed(0, 13, 4, -1);
        x.deed(1, 10, 9, -1);
        promise = 17;
        due("until(1), END 12", x.until(1), NONE);
        x.ends(16);
        due("until(1), END 16", x.until(1), 15);
        due("until(0)", x.until(0), NONE);
        promise = 15;
        due("leaves(0)", x.leaves(0), 6);
        promise = 18;
        due("overdue()", x.overdue(), 2);
        promise = 20;
        // the heavy one is DUE in 12 + GRACE: with 3 it is worth 9 up to YEAR 15
        due("graceFor(1)", x.graceFor(1), 3);
        promise = 40;
        // 9 in 10 to 13, 4 in 13 and 14, 6 in 15, and 4 more if the forger is HELD in it
        due("often(1, 50)", x.often(20, 36 + 8 + 6), 20);
        due("often(1, 55)", x.often(20, 36 + 8 + 6 + 5), 0);
        promise = 13;
        years(x, 15);
        due("year() 15", x.year(), 6);
    }

    private static void edges() {
        promise = 21;
        LeftUndoes x = people(2, 1, 1);
        x.deed(0, 0, 9, -1);
        due("strengthFor(0), the most", x.strengthFor(0), 9);
        promise = 41;
        due("prove(4)", x.prove(4), 4);
        promise = 44;
        due("judge(), four ROWS", x.judge(), 0);
        promise = 12;
        String longText = "hand spare;" + " ".repeat(189);
        due("200 bytes", told(new LeftUndoes(), longText), 1);
        due("200 bytes", told(new LeftUndoes(), " ".repeat(189) + "hand spare;"), 1);
        due("200 bytes, a NAME at the end", told(new LeftUndoes(), " ".repeat(196) + "hand"), -300);
        due("200 bytes, a NUMBER at the end", told(new LeftUndoes(), " ".repeat(187) + "hand early 99"), -300);
        due("200 letters", told(new LeftUndoes(), "a".repeat(200)), -100);
        due("200 digits", told(new LeftUndoes(), "hand early " + "1".repeat(189)), -111);
        promise = 54;
        LeftUndoes y = family();
        for (int p = 0; p < 6; p++) for (int q = 0; q < 6; q++) if (p != q) y.owe(p, q, p + q);
        due("many(7)", y.many(7), 30);
        promise = 26;
        LeftUndoes z = people(1, 1, 1, 1, 1, 1, 1, 1, 1);
        z.owe(1, 2, 1);
        due("payments(), the first has no part in it", z.payments(), 1);
        promise = 52;
        y.sheet(3, 1, 2);
        y.sheet(0, 4, 9);
        due("write on the last SHEET", y.write(3, 1, -7), 1);
        due("item of the last SHEET", y.item(3, 1, 1), -7);
        due("shelf with the first SHEET", y.shelf(3, 1, 0), 1);
        due("taken", y.taken(3, 14), 9);
        due("the first one on the last SHELF", y.shelf(3, 0, 0), 1);
        due("act", y.act(3, 0, 10), 7);
        y.change(4, 1, 3);
        // heir: gives(8) is 5, takes 10; 10 ^ 3
        actIs(y, 4, 1, 8, 10 ^ 3, 60, 11, 10);
    }

    /** Where there is no other way to tell who lies, or what is kept. */
    private static void keptReports() {
        promise = 37;
        LeftUndoes x = new LeftUndoes();
        x.report(1, 0, 0, 1);
        due("liar(), the first", x.liar(), 0);
        x.report(1, 0, 0, 0);
        due("liar(), the first", x.liar(), 0);
        x.forget();
        x.report(1, 15, 31, 0);
        due("liar(), some FIT", x.liar(), NONE);
        x.forget();
        x.report(1, 0, 31, 1);
        x.report(9, 0, 0, 1);
        x.report(9, 0, 1, 1);
        // DUE in 1, undone in 1: clasped with GRACE 1 and STRENGTH 9, so 1 alone lies
        due("liar()", x.liar(), 1);
        promise = 56;
        LeftUndoes y = people(1, 1, 1, 1, 1, 1, 1, 1, 1);
        y.owe(1, 0, 8);
        y.owe(2, 1, 9);
        y.report(8, 0, 3, 1);
        y.keep();
        y.owe(1, 0, 1);
        y.owe(2, 1, 1);
        y.forget();
        y.report(1, 9, 9, 0);
        y.again();
        dueAll("owes", new int[] {y.owes(1, 0), y.owes(2, 1), y.owes(0, 1)}, 8, 9, 0);
        due("span(0), as reckoned for promise 36", y.span(0), 14);
    }

    public static void main(String[] args) {
        newObject();
        farYears();
        edges();
        keptReports();
        persons();
        personsOf();
        choices();
        changes();
        remakes();
        deeds();
        deedsOf();
        end();
        anews();
        states();
        feeds();
        ruleTexts();
        conditions();
        ruleEffects();
        yearsGoBy();
        sets();
        rest();
        untils();
        overdues();
        fallen();
        bestOnes();
        loans();
        rings();
        paid();
        bestPlans();
        bestOfTwo();
        games();
        secondOneHolds();
        reports();
        liars();
        lots();
        oftenByHand();
        rowsProved();
        sheets();
        sheetActs();
        shelves();
        acts();
        counts();
        kept();
        System.out.println(wrong == 0 ? checks + " answers are as due" : wrong + " of " + checks + " answers are not as due");
        if (wrong != 0) System.exit(1);
    }
}
