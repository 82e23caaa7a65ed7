/** Terms, section 1 (YEARS, PEOPLE, DEEDS), and promises 1 to 10. */
final class BoundsOfDeeds extends Worlds {
    static void run() {
        ofYears();
        ofPeople();
        ofDeeds();
        ofTerms();
        ofPulls();
        ofChoices();
        ofRulesThatChangeIt();
        ofDeedsDone();
        ofDeedsUndone();
        ofWorth();
        newObject();
        person();
        personOf();
        changeAndRemake();
        deed();
        deedOf();
        ends();
        anew();
        state();
    }

    private static void ofYears() {
        terms("YEARS are 0, 1, ..;");
        LeftUndoes x = new LeftUndoes();
        for (int k = 0; k < 12; k++) {
            due("YEAR", x.state(0), k);
            x.year();
        }
        terms("END is 1 to 16 (12 at first);");
        LeftUndoes y = new LeftUndoes();
        due("END at first", y.state(1), 12);
        due("ends(1)", y.ends(1), 12);
        due("ends(16)", y.ends(16), 1);
        due("END", y.state(1), 16);
        refused("ends(0)", LeftUndoes::new, o -> o.ends(0), BAD);
        refused("ends(17)", LeftUndoes::new, o -> o.ends(17), BAD);
        terms("YEAR: the one that comes (0 at first);");
        due("YEAR at first", new LeftUndoes().state(0), 0);
        terms("from END on it is OVER.");
        for (int end : new int[] {1, 2, 16}) {
            LeftUndoes z = new LeftUndoes();
            z.ends(end);
            years(z, end - 1);
            due("OVER in the YEAR ahead of END " + end, z.state(3), 0);
            due("the last YEAR", z.year(), 0);
            due("OVER in END " + end, z.state(3), 1);
            due("year(), OVER", z.year(), STATE);
            due("YEAR", z.state(0), end);
        }
        LeftUndoes w = years(new LeftUndoes(), 5);
        w.ends(5);
        due("OVER as soon as END is YEAR", w.state(3), 1);
        w.ends(6);
        due("not OVER any more", w.state(3), 0);
    }

    private static void ofPeople() {
        terms("PEOPLE, 6 at most, numbered as they come: a KIND, GRACE (1 to 9), STRENGTH (1 to 9).");
        LeftUndoes x = new LeftUndoes();
        for (int p = 0; p < 6; p++) due("number", x.person(p % 5 + 1, p == 0 ? 1 : 9, p == 0 ? 9 : 1), p);
        due("the seventh", x.person(1, 1, 1), FULL);
        dueAll("of the first", each(0, 2, what -> x.personOf(0, what)), 1, 1, 9);
        dueAll("of the last", each(0, 2, what -> x.personOf(5, what)), 1, 9, 1);
        terms("SCORE: what YEARS were WORTH (0 at first).");
        LeftUndoes y = weak();
        due("SCORE at first", y.state(2), 0);
        int[] scores = {5, 10, 15, 20, 20};
        for (int k = 0; k < 5; k++) {
            y.year();
            due("SCORE behind YEAR " + k, y.state(2), scores[k]);
        }
        terms("KINDS: 0 hand; 1 clasped, 2 forger, 4 slow (under hand); 3 twin (under forger); 5 heir (under slow).");
        LeftUndoes z = people(1, 1, 1, 2, 1, 1, 3, 1, 1, 4, 1, 1, 5, 1, 1);
        int[][] under = {{0, 0, OTHER, OTHER, OTHER, OTHER}, {1, OTHER, 1, OTHER, OTHER, OTHER}, {2, OTHER, 2, 2, OTHER, OTHER},
            {3, OTHER, OTHER, OTHER, 3, OTHER}, {4, OTHER, OTHER, OTHER, 4, 4}};
        for (int p = 0; p < 5; p++) {
            z.shelf(0, 0, p);
            dueAll("KIND " + (p + 1) + " taken as each", each(0, 5, as -> z.taken(0, as)), under[p]);
        }
    }

    private static void ofDeeds() {
        terms("DEEDS, 10 at most, numbered as they come: of one of PEOPLE, in a YEAR (0 to 15), a WEIGHT (1 to 9), "
            + "perhaps a NEED (a DEED that came ahead of it; -1: none).");
        LeftUndoes x = people(1, 1, 1, 2, 2, 2);
        due("the first can need none but -1", x.deed(0, 0, 1, 0), BAD);
        due("YEAR 0, WEIGHT 1", x.deed(0, 0, 1, -1), 0);
        due("YEAR 15, WEIGHT 9, the last one NEEDED", x.deed(1, 15, 9, 0), 1);
        due("itself NEEDED", x.deed(1, 15, 9, 2), BAD);
        for (int d = 2; d < 10; d++) due("number", x.deed(1, 3, 2, d - 1), d);
        due("the eleventh", x.deed(1, 3, 2, -1), FULL);
        dueAll("of DEED 0", each(0, 3, what -> x.deedOf(0, what)), 0, 0, 1, -1);
        dueAll("of DEED 1", each(0, 3, what -> x.deedOf(1, what)), 1, 15, 9, 0);
        dueAll("of DEED 9", each(0, 3, what -> x.deedOf(9, what)), 1, 3, 2, 8);
        terms("Each is 0 OPEN (at first), 1 STANDS, 2 UNDONE, 3 FELL, 4 FAILED.");
        LeftUndoes y = people(2, 1, 9, 2, 9, 9);
        y.deed(0, 0, 1, -1);
        y.deed(1, 0, 1, 0);
        y.deed(1, 9, 1, -1);
        y.deed(1, 0, 1, 2);
        y.deed(1, 0, 1, -1);
        dueAll("at first", hows(y), 0, 0, 0, 0, 0);
        years(y, 3);
        dueAll("behind YEAR 2", hows(y), 2, 3, 0, 4, 1);
        dueAll("as sets", sets(y), 4, 16, 1, 2, 8);
    }

    private static void ofTerms() {
        terms("TERM: hand: GRACE. clasped: as hand. forger: twice that of hand. twin: as forger, less 1. slow: as hand, and 2. "
            + "heir: as slow, and 9.");
        int[] least = {1, 2, 1, 3, 12}, most = {9, 18, 17, 11, 20};
        for (int kind = 1; kind <= 5; kind++) {
            LeftUndoes x = people(kind, 1, 1, kind, 9, 1);
            x.deed(0, 0, 1, -1);
            x.deed(1, 0, 1, -1);
            due("TERM of KIND " + kind + " with GRACE 1", x.deedOf(0, 5), least[kind - 1]);
            due("TERM of KIND " + kind + " with GRACE 9", x.deedOf(1, 5), most[kind - 1]);
        }
        terms("DUE of a DEED: its YEAR and the TERM of whose it is.");
        for (int kind = 1; kind <= 5; kind++) {
            LeftUndoes x = people(1, 1, 1, kind, 9, 1);
            x.deed(1, 15, 1, -1);
            x.deed(1, 7, 1, -1);
            due("DUE of YEAR 15, KIND " + kind, x.deedOf(0, 5), 15 + most[kind - 1]);
            due("DUE of YEAR 7, KIND " + kind, x.deedOf(1, 5), 7 + most[kind - 1]);
        }
        terms("OVERDUE in a YEAR: it STANDS, and that YEAR is later than DUE.");
        LeftUndoes w = weak();
        dueAll("WORTH up to DUE in 3, and behind it", each(0, 5, k -> w.year()), 5, 5, 5, 5, 0, 0);
        LeftUndoes v = weak();
        v.ends(4);
        due("nobody OVERDUE in the YEAR 3", v.overdue(), 0);
        v.ends(5);
        due("OVERDUE in the YEAR 4", v.overdue(), 1);
        LeftUndoes u = single();
        due("what doesn't STAND isn't OVERDUE", u.overdue(), 0);
    }

    /** PULL in each YEAR, 0 to 16. */
    private static int[] pulls(int kind, int strength) {
        LeftUndoes x = people(kind, 1, strength);
        x.ends(16);
        return each(0, 16, k -> {
            int pull = x.personOf(0, 4);
            x.year();
            return pull;
        });
    }

    private static void ofPulls() {
        terms("PULL in a YEAR: hand: STRENGTH. clasped: as hand; 0, if the YEAR by 3 leaves 2.");
        dueAll("clasped, STRENGTH 1", pulls(1, 1), 1, 1, 0, 1, 1, 0, 1, 1, 0, 1, 1, 0, 1, 1, 0, 1, 1);
        dueAll("clasped, STRENGTH 9", pulls(1, 9), 9, 9, 0, 9, 9, 0, 9, 9, 0, 9, 9, 0, 9, 9, 0, 9, 9);
        terms("forger: as hand. twin: as forger, and 1.");
        for (int s = 1; s <= 9; s++) {
            int strength = s;
            dueAll("forger, STRENGTH " + s, pulls(2, s), each(0, 16, k -> strength));
            dueAll("twin, STRENGTH " + s, pulls(3, s), each(0, 16, k -> strength + 1));
        }
        terms("Quotients are cut towards 0.");
        dueAll("slow, STRENGTH 1 to 9", each(1, 9, s -> pulls(4, s)[0]), 0, 1, 1, 2, 2, 3, 3, 4, 4);
        terms("slow: half of that of hand. heir: as slow; 9, if the YEAR is 9 or later.");
        dueAll("slow, STRENGTH 1", pulls(4, 1), each(0, 16, k -> 0));
        dueAll("slow, STRENGTH 8", pulls(4, 8), each(0, 16, k -> 4));
        dueAll("heir, STRENGTH 1", pulls(5, 1), 0, 0, 0, 0, 0, 0, 0, 0, 0, 9, 9, 9, 9, 9, 9, 9, 9);
        dueAll("heir, STRENGTH 9", pulls(5, 9), 4, 4, 4, 4, 4, 4, 4, 4, 4, 9, 9, 9, 9, 9, 9, 9, 9);
    }

    private static void ofChoices() {
        terms("CHOICE of one in a YEAR: of its DEEDS that STAND, whose WEIGHT is PULL or less, and that are DUE in that YEAR "
            + "or ahead of it the one DUE first, of several the least.");
        LeftUndoes x = people(2, 1, 5, 2, 1, 5);
        x.deed(0, 0, 5, -1);
        x.deed(1, 0, 6, -1);
        due("OPEN", x.personOf(0, 5), 10);
        years(x, 1);
        due("DUE a YEAR later", x.personOf(0, 5), 10);
        years(x, 1);
        due("DUE in that YEAR, WEIGHT as PULL", x.personOf(0, 5), 0);
        due("WEIGHT is 1 more than PULL", x.personOf(1, 5), 10);
        years(x, 1);
        due("UNDONE", x.personOf(0, 5), 10);
        years(x, 3);
        x.change(1, 2, 6);
        due("DUE ahead of that YEAR", x.personOf(1, 5), 1);
        LeftUndoes y = people(2, 1, 2, 2, 1, 9);
        y.deed(0, 1, 1, -1);
        y.deed(0, 0, 2, -1);
        y.deed(0, 0, 1, -1);
        spared(y, 3);
        due("DUE first, of two the least", y.personOf(0, 5), 1);
        due("another one's", y.personOf(1, 5), 10);
        y.change(0, 2, 1);
        due("of the lighter ones DUE first", y.personOf(0, 5), 2);
        LeftUndoes z = people(1, 1, 9);
        z.deed(0, 0, 1, -1);
        years(z, 1);
        z.remake(0, 2);
        years(z, 1);
        due("a forger's in YEAR 2", z.personOf(0, 5), 0);
        z.remake(0, 1);
        due("PULL 0 chooses nothing", z.personOf(0, 5), 10);
        LeftUndoes w = people(2, 1, 9, 2, 9, 9);
        w.deed(1, 9, 1, -1);
        w.deed(0, 0, 1, 0);
        years(w, 5);
        due("FAILED, though DUE", w.personOf(0, 5), 10);
    }

    /** An heir with PULL 4 in YEAR 5, whose DEEDS 0, 1, 2 are DUE in 12, 14, 12 (the last one too heavy). */
    private static LeftUndoes heirInYear5() {
        LeftUndoes x = people(5, 1, 9);
        x.deed(0, 0, 4, -1);
        x.deed(0, 2, 4, -1);
        x.deed(0, 0, 5, -1);
        return years(x, 5);
    }

    private static void choiceBy(LeftUndoes x, String text, int want) {
        x.rules();
        due("RULES " + text, told(x, text) < 0 ? BAD : 1, 1);
        due("CHOICE by " + text, x.personOf(0, 5), want);
    }

    private static void ofRulesThatChangeIt() {
        terms("A RULE changes it: the first of THE RULES whose KIND is its or above it, and whose condition holds:");
        String[] kinds = {"hand", "clasped", "forger", "twin", "slow", "heir"};
        int[][] above = {{0, 1}, {0, 2}, {0, 2, 3}, {0, 4}, {0, 4, 5}};
        LeftUndoes x = people(1, 1, 9, 2, 1, 9, 3, 1, 9, 4, 1, 9, 5, 1, 9);
        for (int p = 0; p < 5; p++) x.deed(p, 0, 1, -1);
        x.ends(16);
        spared(x, 13);
        for (int p = 0; p < 5; p++) {
            due("CHOICE without RULES", x.personOf(p, 5), p);
            for (int k = 0; k < 6; k++) {
                boolean changed = false;
                for (int kind : above[p]) changed |= kind == k;
                told(x, kinds[k] + " spare;");
                due("CHOICE of KIND " + (p + 1) + " by " + kinds[k] + " spare", x.personOf(p, 5), changed ? 10 : p);
                x.rules();
            }
        }
        LeftUndoes y = heirInYear5();
        choiceBy(y, "", 10);
        choiceBy(y, "hand spare; hand early 9;", 10);
        choiceBy(y, "hand early 9; hand spare;", 0);
        choiceBy(y, "twin spare; clasped spare; forger spare; slow early 9; heir spare;", 0);
        choiceBy(y, "hand if year=4 spare; hand if year=6 spare; hand if year=5 early 9; hand spare;", 0);
        choiceBy(y, "hand if year>5 early 9; hand if year<5 early 9;", 10);
        choiceBy(y, "hand spare; hand spare; hand spare; hand spare; hand spare; hand spare; hand spare; hand early 9;", 10);
        choiceBy(y, "twin spare; twin spare; twin spare; twin spare; twin spare; twin spare; twin spare; heir early 9;", 0);
        terms("by early N: those DUE up to N YEARS later, too;");
        choiceBy(y, "hand early 0;", 10);
        choiceBy(y, "hand early 6;", 10);
        choiceBy(y, "hand early 7;", 0);
        choiceBy(y, "hand early 99;", 0);
        LeftUndoes light = people(5, 1, 9);
        light.deed(0, 2, 1, -1);
        light.deed(0, 1, 1, -1);
        light.deed(0, 0, 5, -1);
        years(light, 5);
        choiceBy(light, "hand early 7;", 10);
        choiceBy(light, "hand early 8;", 1);
        choiceBy(light, "hand early 9;", 1);
        LeftUndoes inItsDue = spared(single(), 2);
        choiceBy(inItsDue, "hand early 0;", 0);
        choiceBy(inItsDue, "hand early 3;", 0);
        LeftUndoes open = single();
        choiceBy(open, "hand early 99;", 10);
        due("done and undone in YEAR 0", open.year(), 0);
        dueAll("sets", sets(open), 0, 0, 1, 0, 0);
        terms("by late N: those alone DUE N YEARS ahead of that YEAR or earlier;");
        LeftUndoes z = people(2, 1, 9);
        z.deed(0, 1, 1, -1);
        z.deed(0, 0, 9, -1);
        spared(z, 5);
        choiceBy(z, "hand late 0;", 1);
        choiceBy(z, "hand late 2;", 1);
        choiceBy(z, "hand late 3;", 1);
        choiceBy(z, "hand late 4;", 10);
        choiceBy(z, "hand late 99;", 10);
        z.change(0, 2, 8);
        choiceBy(z, "hand late 2;", 0);
        choiceBy(z, "hand late 3;", 10);
        LeftUndoes inDue = spared(single(), 2);
        choiceBy(inDue, "hand late 0;", 0);
        choiceBy(inDue, "hand late 1;", 10);
        terms("by spare: none.");
        choiceBy(inDue, "", 0);
        choiceBy(inDue, "hand spare;", 10);
        choiceBy(z, "hand spare;", 10);
    }

    private static void ofDeedsDone() {
        terms("A YEAR goes by: (1) each DEED of that YEAR that is OPEN, by numbers, STANDS, if it has no NEED, "
            + "or that STANDS by then; else it FAILED;");
        LeftUndoes x = people(2, 9, 9);
        x.deed(0, 1, 1, -1);
        x.deed(0, 1, 1, 0);
        x.deed(0, 0, 1, 0);
        x.deed(0, 2, 1, 2);
        years(x, 1);
        dueAll("behind YEAR 0: the NEED of 2 is OPEN", hows(x), 0, 0, 4, 0);
        years(x, 1);
        dueAll("behind YEAR 1: the NEED of 1 STANDS by then", hows(x), 1, 1, 4, 0);
        years(x, 1);
        dueAll("behind YEAR 2: the NEED of 3 FAILED", hows(x), 1, 1, 4, 4);
        LeftUndoes y = people(2, 1, 9, 2, 9, 9);
        y.deed(0, 0, 1, -1);
        y.deed(1, 3, 1, 0);
        y.deed(1, 2, 1, 0);
        y.deed(1, 3, 1, 2);
        y.deed(1, 1, 1, 0);
        years(y, 2);
        dueAll("behind YEAR 1", hows(y), 1, 0, 0, 0, 1);
        years(y, 1);
        dueAll("behind YEAR 2: 2 STANDS by then, and FELL", hows(y), 2, 0, 3, 0, 3);
        years(y, 1);
        dueAll("behind YEAR 3: the NEEDS are UNDONE, FELL", hows(y), 2, 4, 3, 4, 3);
        LeftUndoes z = people(2, 9, 9);
        z.deed(0, 15, 1, -1);
        z.ends(16);
        years(z, 15);
        dueAll("ahead of YEAR 15", hows(z), 0);
        years(z, 1);
        dueAll("behind YEAR 15", hows(z), 1);
    }

    /** Of the first of two forgers DEED 0; of the other one 1, that needs it, and 2; all DUE in YEAR 2. */
    private static LeftUndoes two() {
        LeftUndoes x = people(2, 1, 9, 2, 1, 9);
        x.deed(0, 0, 1, -1);
        x.deed(1, 0, 2, 0);
        x.deed(1, 0, 4, -1);
        return years(x, 2);
    }

    private static void ofDeedsUndone() {
        terms("(2) of PEOPLE, by numbers, each, but who is HELD, undoes its CHOICE (as all is by then): that is UNDONE;");
        LeftUndoes x = two();
        due("CHOICE as all is now", x.personOf(1, 5), 1);
        due("WORTH: none is left", x.year(), 0);
        dueAll("1 FELL by the first one; the other one undid 2", hows(x), 2, 3, 2);
        LeftUndoes one = bytes(two(), 0, 1, 2);
        due("WORTH with the first one HELD", one.goAll(0, 0, 1), 5);
        dueAll("how", hows(one), 1, 2, 1);
        LeftUndoes other = bytes(two(), 0, 1, 2);
        due("WORTH with the other one HELD", other.goAll(0, 1, 1), 4);
        dueAll("how", hows(other), 2, 3, 1);
        LeftUndoes y = people(2, 1, 9, 2, 1, 9);
        y.deed(1, 0, 1, -1);
        y.deed(0, 0, 2, 0);
        years(y, 3);
        dueAll("who needs comes first: both UNDONE", hows(y), 2, 2);
        LeftUndoes z = people(2, 1, 9);
        z.deed(0, 0, 1, -1);
        z.deed(0, 0, 2, -1);
        years(z, 3);
        dueAll("one a YEAR", hows(z), 2, 1);
        years(z, 1);
        dueAll("one a YEAR", hows(z), 2, 2);
        terms("each that STANDS and NEEDS one that is UNDONE or FELL, FELL, and what needs that, and so on.");
        LeftUndoes c = people(2, 1, 9, 2, 9, 9);
        c.deed(0, 0, 1, -1);
        for (int d = 1; d < 8; d++) c.deed(1, 0, 1, d - 1);
        c.deed(1, 0, 1, -1);
        c.deed(1, 9, 1, 1);
        years(c, 3);
        dueAll("seven FELL, one in need of it is OPEN", sets(c), 512, 256, 1, 254, 0);
        years(c, 7);
        dueAll("that one FAILED", sets(c), 0, 256, 1, 254, 512);
        LeftUndoes d = people(2, 1, 9, 1, 1, 9, 2, 9, 9);
        d.deed(0, 0, 1, -1);
        d.deed(1, 0, 1, 0);
        d.deed(2, 0, 1, 1);
        d.deed(2, 0, 1, 0);
        years(d, 2);
        dueAll("1 UNDONE, 2 FELL", hows(d), 1, 2, 3, 1);
        years(d, 1);
        dueAll("0 UNDONE, 1 stays UNDONE, 3 FELL", hows(d), 2, 2, 3, 3);
    }

    private static void ofWorth() {
        terms("It is WORTH the WEIGHTS of DEEDS that STAND then and aren't OVERDUE, together;");
        LeftUndoes x = people(2, 1, 9, 2, 9, 9);
        x.deed(0, 0, 1, -1);
        x.deed(1, 0, 2, 0);
        x.deed(1, 0, 4, -1);
        x.deed(1, 3, 8, -1);
        x.deed(1, 0, 9, 3);
        dueAll("not OPEN, UNDONE, FELL, FAILED ones", each(0, 3, k -> x.year()), 7, 7, 4, 12);
        LeftUndoes y = weak();
        dueAll("in DUE, and behind it", each(0, 4, k -> y.year()), 5, 5, 5, 5, 0);
        due("it STANDS yet", y.standing(1), 1);
        LeftUndoes z = people(2, 9, 1);
        for (int d = 0; d < 10; d++) z.deed(0, 0, 9, -1);
        due("all of the heaviest", z.year(), 90);
        terms("YEAR is 1 more.");
        due("YEAR", z.state(0), 1);
        due("WORTH", z.year(), 90);
        due("YEAR", z.state(0), 2);
    }

    private static void newObject() {
        promise(1, "No PEOPLE, DEEDS, RULES, LOANS, REPORTS; nothing is kept.");
        people(1, 1, 1).keep();
        LeftUndoes x = new LeftUndoes();
        dueAll("many", each(0, 7, x::many), 0, 0, 0, 0, 0, 0, 0, 0);
        due("many(8)", x.many(8), BAD);
        dueAll("state", states(x), 0, 12, 0, 0);
        dueAll("sets", sets(x), 0, 0, 0, 0, 0);
        due("again()", x.again(), NONE);
        due("personOf(0, 0)", x.personOf(0, 0), BAD);
        due("deedOf(0, 0)", x.deedOf(0, 0), BAD);
        due("span(0): each STRANGER FITS", x.span(0), 405);
        due("forget()", x.forget(), 0);
        LeftUndoes other = people(1, 1, 1);
        due("of another object", other.many(0), 1);
        due("of this one still none", x.many(0), 0);
        x.person(1, 1, 1);
        x.person(2, 1, 1);
        dueAll("no LOANS", all(x.owes(0, 1), x.owes(1, 0), x.net(0)), 0, 0, 10000);
    }

    private static void person() {
        promise(2, "One of PEOPLE of a KIND 1 to 5: its number. BAD; FULL.");
        int[][] good = {{1, 1, 1}, {5, 9, 9}, {1, 9, 1}, {5, 1, 9}, {3, 5, 5}, {2, 1, 1}};
        LeftUndoes x = new LeftUndoes();
        for (int p = 0; p < 6; p++) due("person", x.person(good[p][0], good[p][1], good[p][2]), p);
        int[][] bad = {{0, 1, 1}, {6, 1, 1}, {-1, 1, 1}, {LEAST, 1, 1}, {MOST, 1, 1}, {1, 0, 1}, {1, 10, 1}, {1, -1, 1},
            {1, LEAST, 1}, {1, MOST, 1}, {1, 1, 0}, {1, 1, 10}, {1, 1, -1}, {1, 1, LEAST}, {1, 1, MOST}};
        for (int[] b : bad) {
            refused("person" + java.util.Arrays.toString(b), LeftUndoes::new, o -> o.person(b[0], b[1], b[2]), BAD);
            refused("person" + java.util.Arrays.toString(b) + ", full", Worlds::six, o -> o.person(b[0], b[1], b[2]), BAD);
        }
        refused("person(1, 1, 1), full", Worlds::six, o -> o.person(1, 1, 1), FULL);
        refused("person(5, 9, 9), full", Worlds::six, o -> o.person(5, 9, 9), FULL);
    }

    private static void personOf() {
        promise(3, "Of one: what = 0 KIND, 1 GRACE, 2 STRENGTH, 3 the WEIGHTS of its DEEDS that STAND, together, 4 PULL in YEAR, "
            + "5 CHOICE in YEAR (as all is now; 10: none). BAD.");
        LeftUndoes x = people(2, 1, 9, 4, 9, 1);
        for (int d = 0; d < 9; d++) x.deed(0, 0, 9, -1);
        x.deed(0, 0, 1, -1);
        dueAll("of the first, all OPEN", each(0, 5, what -> x.personOf(0, what)), 2, 1, 9, 0, 9, 10);
        spared(x, 2);
        dueAll("of the first, all STAND", each(0, 5, what -> x.personOf(0, what)), 2, 1, 9, 82, 9, 0);
        dueAll("of the last", each(0, 5, what -> x.personOf(1, what)), 4, 9, 1, 0, 0, 10);
        x.change(0, 2, 1);
        due("CHOICE, the last DEED", x.personOf(0, 5), 9);
        x.change(0, 2, 9);
        x.year();
        dueAll("of the first, one UNDONE", each(3, 5, what -> x.personOf(0, what)), 73, 9, 1);
        LeftUndoes w = years(weak(), 9);
        due("OVERDUE ones STAND", w.personOf(0, 3), 5);
        for (int p : new int[] {-1, 1, 6, LEAST, MOST}) {
            refused("personOf(" + p + ", 0)", Worlds::single, o -> o.personOf(p, 0), BAD);
        }
        for (int what : new int[] {-1, 6, LEAST, MOST}) {
            refused("personOf(0, " + what + ")", Worlds::single, o -> o.personOf(0, what), BAD);
        }
        refused("personOf(6, 0) of six", Worlds::six, o -> o.personOf(6, 0), BAD);
        due("personOf(5, 0) of six", six().personOf(5, 0), 1);
        refused("personOf(0, 0) of nobody", LeftUndoes::new, o -> o.personOf(0, 0), BAD);
    }

    private static void changeAndRemake() {
        promise(4, "GRACE (what 1), STRENGTH (2) of one becomes v: what it was. BAD.");
        LeftUndoes x = people(2, 4, 6, 2, 5, 7);
        x.deed(0, 0, 9, -1);
        dueAll("change", all(x.change(0, 1, 1), x.change(0, 1, 9), x.change(0, 2, 1), x.change(0, 2, 9)), 4, 1, 6, 1);
        dueAll("GRACE, STRENGTH, DUE", all(x.personOf(0, 1), x.personOf(0, 2), x.deedOf(0, 5)), 9, 9, 18);
        dueAll("the other one's", all(x.personOf(1, 1), x.personOf(1, 2)), 5, 7);
        int[][] bad = {{-1, 1, 1}, {1, 1, 1}, {6, 1, 1}, {LEAST, 1, 1}, {0, 0, 1}, {0, 3, 1}, {0, -1, 1}, {0, MOST, 1}, {0, 1, 0},
            {0, 1, 10}, {0, 2, 0}, {0, 2, 10}, {0, 1, LEAST}, {0, 2, MOST}};
        for (int[] b : bad) {
            refused("change" + java.util.Arrays.toString(b), Worlds::single, o -> o.change(b[0], b[1], b[2]), BAD);
        }
        promise(5, "One becomes one of another KIND (1 to 5): the KIND that it was. BAD.");
        LeftUndoes y = people(5, 1, 9);
        y.deed(0, 0, 1, -1);
        dueAll("remake to 1, 2, 3, 4, 5", each(1, 5, k -> y.remake(0, k)), 5, 1, 2, 3, 4);
        dueAll("KIND, GRACE, STRENGTH, DUE", all(y.personOf(0, 0), y.personOf(0, 1), y.personOf(0, 2), y.deedOf(0, 5)), 5, 1, 9, 12);
        int[][] no = {{-1, 1}, {1, 1}, {MOST, 1}, {0, 0}, {0, 6}, {0, -1}, {0, LEAST}, {0, MOST}};
        for (int[] b : no) {
            refused("remake" + java.util.Arrays.toString(b), Worlds::single, o -> o.remake(b[0], b[1]), BAD);
        }
    }

    private static void deed() {
        promise(6, "A DEED of one: its number. BAD; FULL; STATE: its YEAR went by.");
        int[][] bad = {{-1, 0, 1, -1}, {1, 0, 1, -1}, {6, 0, 1, -1}, {LEAST, 0, 1, -1}, {0, -1, 1, -1}, {0, 16, 1, -1},
            {0, LEAST, 1, -1}, {0, MOST, 1, -1}, {0, 0, 0, -1}, {0, 0, 10, -1}, {0, 0, LEAST, -1}, {0, 0, MOST, -1},
            {0, 0, 1, -2}, {0, 0, 1, 1}, {0, 0, 1, LEAST}, {0, 0, 1, MOST}};
        for (int[] b : bad) {
            String call = "deed" + java.util.Arrays.toString(b);
            refused(call, Worlds::single, o -> o.deed(b[0], b[1], b[2], b[3]), BAD);
            // ahead of STATE: YEAR is 3 by now
            refused(call + ", later", () -> years(single(), 3), o -> o.deed(b[0], b[1], b[2], b[3]), BAD);
        }
        int[][] full = {{2, 0, 1, -1}, {0, 16, 1, -1}, {0, 0, 0, -1}, {0, 0, 1, 10}, {0, 0, 1, -2}};
        for (int[] b : full) {
            refused("BAD ahead of FULL", Worlds::tenDeeds, o -> o.deed(b[0], b[1], b[2], b[3]), BAD);
        }
        refused("the eleventh", Worlds::tenDeeds, o -> o.deed(0, 0, 1, -1), FULL);
        refused("the eleventh, the last one NEEDED", Worlds::tenDeeds, o -> o.deed(1, 15, 9, 9), FULL);
        refused("FULL ahead of STATE", () -> years(tenDeeds(), 3), o -> o.deed(0, 0, 1, -1), FULL);
        refused("its YEAR went by", () -> years(single(), 3), o -> o.deed(0, 2, 1, 0), STATE);
        refused("its YEAR went by", () -> years(single(), 1), o -> o.deed(0, 0, 1, -1), STATE);
        due("the YEAR that comes", years(single(), 3).deed(0, 3, 1, 0), 1);
        LeftUndoes x = years(single(), 12);
        due("OVER, its YEAR is the one that comes", x.deed(0, 12, 1, -1), 1);
        due("OVER, its YEAR went by", x.deed(0, 11, 1, -1), STATE);
        x.ends(16);
        years(x, 4);
        due("all YEARS went by", x.deed(0, 15, 1, -1), STATE);
    }

    private static void deedOf() {
        promise(7, "Of a DEED: what = 0 whose it is, 1 YEAR, 2 WEIGHT, 3 NEED, 4 how it is (0 to 4), 5 DUE. BAD.");
        LeftUndoes x = tenDeeds();
        dueAll("of the first", each(0, 5, what -> x.deedOf(0, what)), 1, 0, 1, -1, 0, 18);
        dueAll("of the last", each(0, 5, what -> x.deedOf(9, what)), 1, 0, 1, 8, 0, 18);
        dueAll("of the last but one", each(0, 5, what -> x.deedOf(8, what)), 1, 2, 9, 7, 0, 20);
        for (int d : new int[] {-1, 10, LEAST, MOST}) {
            refused("deedOf(" + d + ", 0)", Worlds::tenDeeds, o -> o.deedOf(d, 0), BAD);
        }
        refused("deedOf(1, 0) of one", Worlds::single, o -> o.deedOf(1, 0), BAD);
        for (int what : new int[] {-1, 6, LEAST, MOST}) {
            refused("deedOf(0, " + what + ")", Worlds::single, o -> o.deedOf(0, what), BAD);
        }
    }

    private static void ends() {
        promise(8, "END becomes v: what it was. BAD; STATE: v is below YEAR.");
        LeftUndoes x = years(new LeftUndoes(), 3);
        dueAll("ends(16), (4), (3)", all(x.ends(16), x.ends(4), x.ends(3)), 12, 16, 4);
        for (int v : new int[] {0, -1, 17, LEAST, MOST}) {
            refused("ends(" + v + ")", LeftUndoes::new, o -> o.ends(v), BAD);
            refused("ends(" + v + "), YEAR 3", () -> years(single(), 3), o -> o.ends(v), BAD);
        }
        refused("ends(2), YEAR 3", () -> years(single(), 3), o -> o.ends(2), STATE);
        refused("ends(1), YEAR 2", () -> years(single(), 2), o -> o.ends(1), STATE);
        due("ends(1), YEAR 1", years(single(), 1).ends(1), 12);
        LeftUndoes y = new LeftUndoes();
        y.ends(16);
        years(y, 16);
        dueAll("ends(15), (16), YEAR 16", all(y.ends(15), y.ends(16)), STATE, 16);
    }

    private static void anew() {
        promise(9, "YEAR is 0 again, SCORE 0, all DEEDS are OPEN: what YEAR was.");
        LeftUndoes x = people(2, 1, 9, 2, 9, 9);
        x.deed(0, 0, 1, -1);
        x.deed(1, 0, 1, 0);
        x.deed(1, 9, 1, -1);
        x.deed(1, 0, 1, 2);
        x.deed(1, 0, 1, -1);
        due("anew() in YEAR 0", x.anew(), 0);
        int first = x.year(), second = x.year(), third = x.year();
        dueAll("one of each", hows(x), 2, 3, 0, 4, 1);
        due("anew()", x.anew(), 3);
        dueAll("YEAR, END, SCORE, OVER", states(x), 0, 12, 0, 0);
        dueAll("all OPEN", sets(x), 31, 0, 0, 0, 0);
        dueAll("the same again", all(x.year(), x.year(), x.year()), first, second, third);
        dueAll("one of each again", hows(x), 2, 3, 0, 4, 1);
        years(x, 9);
        due("OVER", x.state(3), 1);
        due("anew(), OVER", x.anew(), 12);
        dueAll("YEAR, END, SCORE, OVER", states(x), 0, 12, 0, 0);
        due("anew() twice", x.anew(), 0);
    }

    private static void state() {
        promise(10, "What = 0 YEAR, 1 END, 2 SCORE, 3 1 if it is OVER, else 0. BAD.");
        LeftUndoes x = weak();
        x.ends(5);
        years(x, 4);
        dueAll("the YEAR ahead of END", states(x), 4, 5, 20, 0);
        years(x, 1);
        dueAll("OVER", states(x), 5, 5, 20, 1);
        for (int what : new int[] {-1, 4, LEAST, MOST}) {
            refused("state(" + what + ")", Worlds::single, o -> o.state(what), BAD);
        }
    }
}
