/** What is asked, and THE REST, of Terms; promises 13 to 21. */
final class BoundsOfYears extends Worlds {
    static void run() {
        ofAsking();
        ofTheRest();
        ofSets();
        year();
        standing();
        leaves();
        on();
        until();
        overdue();
        falls();
        graceFor();
        strengthFor();
    }

    private static void ofAsking() {
        terms("What is asked changes nothing, if not told.");
        dueAll("the object that is asked has DEEDS of all sorts", sets(rich()), 32, 12, 1, 66, 16);
        changesNothing("personOf", Worlds::rich, x -> each(0, 5, what -> x.personOf(3, what))[0]);
        changesNothing("deedOf", Worlds::rich, x -> each(0, 5, what -> x.deedOf(2, what))[0]);
        changesNothing("state, standing", Worlds::rich, x -> states(x)[0] + sets(x)[0]);
        changesNothing("leaves", Worlds::rich, x -> each(0, 3, x::leaves)[0]);
        changesNothing("on", Worlds::rich, x -> each(0, 16, x::on)[0]);
        changesNothing("until", Worlds::rich, x -> each(0, 6, x::until)[0]);
        changesNothing("overdue", Worlds::rich, LeftUndoes::overdue);
        changesNothing("falls", Worlds::rich, x -> each(0, 6, x::falls)[0]);
        changesNothing("graceFor", Worlds::rich, x -> each(0, 3, x::graceFor)[0]);
        changesNothing("strengthFor", Worlds::rich, x -> each(0, 3, x::strengthFor)[0]);
        changesNothing("owes, net", Worlds::rich, x -> x.owes(0, 1) + x.net(2));
        changesNothing("ring, payments", Worlds::rich, x -> x.ring(0) + x.payments());
        changesNothing("best, ways", Worlds::rich, x -> x.best(4) + x.ways(4));
        changesNothing("ith", Worlds::rich, x -> x.ith(4, 3));
        changesNothing("life, bars", Worlds::rich, x -> x.life(4, 12) + x.bars(4, 127));
        changesNothing("game, play", Worlds::rich, x -> x.game(4) + x.play(4));
        changesNothing("span, liar", Worlds::rich, x -> x.span(0) + x.span(1) + x.liar());
        changesNothing("often", Worlds::rich, x -> x.often(40, 5));
        changesNothing("row, judge", Worlds::rich, x -> x.row(0, 2) + x.judge());
        changesNothing("item", Worlds::rich, x -> x.item(0, 0, 2) + x.item(1, 3, 1) + x.item(3, 4, 0));
        changesNothing("wouldBe", Worlds::rich, x -> x.wouldBe(0, 0, 2));
        changesNothing("taken", Worlds::rich, x -> x.taken(0, 2) + x.taken(1, 13));
        changesNothing("trace, many", Worlds::rich, x -> x.trace(0) + each(0, 7, x::many)[0]);
    }

    private static void ofTheRest() {
        terms("THE REST: all YEARS yet, nobody being HELD.");
        LeftUndoes x = weak();
        x.ends(3);
        due("all three YEARS", x.on(16), 15);
        years(x, 2);
        due("the one that is left", x.on(16), 5);
        years(x, 1);
        due("none is left", x.on(16), 0);
        due("who would have to be HELD undoes it", single().until(0), 2);
        LeftUndoes y = rich();
        int rest = y.on(16), sum = 0;
        for (int k = 0; k < 11; k++) sum += y.year();
        due("what its YEARS were WORTH", sum, rest);
        due("OVER", y.year(), STATE);
        // a forger's DEED of YEAR 13 is undone in YEAR 15, the last there can be; another one's of YEAR 15 STANDS behind it
        LeftUndoes z = people(2, 1, 9, 2, 9, 9, 4, 1, 1);
        z.deed(0, 13, 4, -1);
        z.deed(1, 15, 6, -1);
        z.deed(2, 11, 9, -1);
        z.ends(16);
        due("16 YEARS", z.on(16), 9 + 9 + 9 + 4 + 9 + 4 + 6);
        dueAll("undone in YEAR 15, done in YEAR 15", all(z.until(0), z.leaves(0), z.leaves(1), z.overdue()), 15, 0, 6, 4);
        // as the first one's GRACE would be: DUE in 15 it is undone in YEAR 15, DUE in 17 it is WORTH 4 more in that
        dueAll("GRACE and STRENGTH for YEAR 15", all(z.graceFor(0), z.graceFor(2), z.strengthFor(0), z.strengthFor(2)), 2, 2, 1, NONE);
    }

    private static void ofSets() {
        terms("Sets are told by bits.");
        LeftUndoes x = people(2, 9, 9);
        for (int d = 0; d < 10; d++) x.deed(0, d == 0 || d == 9 ? 0 : 5, 1, -1);
        dueAll("DEEDS 0 and 9 are the bits 0 and 9", all(x.year(), x.standing(1), x.standing(0)), 2, 513, 510);
        LeftUndoes y = people(2, 1, 1, 2, 1, 1, 2, 1, 1, 2, 1, 1, 2, 1, 1, 2, 1, 1);
        y.deed(0, 0, 9, -1);
        y.deed(5, 0, 9, -1);
        due("the first and the last of PEOPLE are the bits 0 and 5", y.overdue(), 33);
    }

    private static void year() {
        promise(13, "A YEAR goes by (nobody HELD): what it was WORTH. STATE: it is OVER.");
        LeftUndoes x = single();
        dueAll("nobody is HELD in YEAR 2", each(0, 11, k -> x.year()), 3, 3, 0, 0, 0, 0, 0, 0, 0, 0, 0, 0);
        due("the thirteenth", x.year(), STATE);
        refused("year(), OVER", Worlds::over, LeftUndoes::year, STATE);
        LeftUndoes y = single();
        y.ends(1);
        dueAll("END 1", all(y.year(), y.year()), 3, STATE);
        y.ends(2);
        due("not OVER any more", y.year(), 3);
        due("no DEEDS, nobody", new LeftUndoes().year(), 0);
    }

    private static void standing() {
        promise(14, "DEEDS that are so (0 OPEN to 4 FAILED), as a set. BAD.");
        dueAll("DEEDS of all sorts", sets(rich()), 32, 12, 1, 66, 16);
        dueAll("ten OPEN", sets(tenDeeds()), 1023, 0, 0, 0, 0);
        dueAll("none", sets(new LeftUndoes()), 0, 0, 0, 0, 0);
        for (int so : new int[] {-1, 5, LEAST, MOST}) refused("standing(" + so + ")", Worlds::rich, x -> x.standing(so), BAD);
    }

    private static void leaves() {
        promise(15, "The WEIGHTS of the DEEDS of one that STAND behind THE REST, together. BAD.");
        LeftUndoes x = people(2, 1, 3, 2, 1, 9, 4, 9, 1);
        x.deed(0, 0, 4, -1);
        x.deed(0, 11, 5, -1);
        x.deed(0, 12, 7, -1);
        x.deed(1, 0, 9, -1);
        x.deed(1, 9, 1, -1);
        x.deed(1, 10, 2, -1);
        // of the first the one that is too heavy (and OVERDUE) and the one of YEAR 11, END is 12; of the next the one DUE in 12
        dueAll("leaves", all(x.leaves(0), x.leaves(1), x.leaves(2)), 9, 2, 0);
        x.ends(13);
        // DUE in YEAR 12
        dueAll("leaves, END 13", all(x.leaves(0), x.leaves(1)), 16, 0);
        LeftUndoes y = people(4, 9, 1);
        for (int d = 0; d < 10; d++) y.deed(0, 0, 9, -1);
        due("leaves of all", y.leaves(0), 90);
        LeftUndoes z = single();
        z.year();
        z.ends(1);
        due("OVER: as it is now", z.leaves(0), 3);
        for (int p : new int[] {-1, 4, LEAST, MOST}) refused("leaves(" + p + ")", Worlds::rich, o -> o.leaves(p), BAD);
        refused("leaves(0) of nobody", LeftUndoes::new, o -> o.leaves(0), BAD);
    }

    private static void on() {
        promise(16, "What n (0 to 16) YEARS of THE REST (fewer, if it is OVER) are WORTH. BAD.");
        LeftUndoes x = weak();
        x.change(0, 1, 9);
        // DUE in YEAR 11
        dueAll("on(0) to on(16), END 12", each(0, 16, x::on), 0, 5, 10, 15, 20, 25, 30, 35, 40, 45, 50, 55, 60, 60, 60, 60, 60);
        dueAll("nobody is HELD", each(0, 4, single()::on), 0, 3, 6, 6, 6);
        x.deed(0, 15, 1, -1);
        x.ends(16);
        dueAll("on(15), on(16), END 16", all(x.on(15), x.on(16)), 60, 61);
        x.ends(15);
        due("on(16), END 15", x.on(16), 60);
        years(x, 10);
        dueAll("from YEAR 10 on", each(0, 3, x::on), 0, 5, 10, 10);
        due("SCORE isn't in it", x.state(2), 50);
        due("on(16), OVER", over().on(16), 0);
        due("on(0), OVER", over().on(0), 0);
        for (int n : new int[] {-1, 17, LEAST, MOST}) {
            refused("on(" + n + ")", Worlds::rich, o -> o.on(n), BAD);
            due("on(" + n + "), OVER", over().on(n), BAD);
        }
    }

    private static void until() {
        promise(17, "The YEAR of THE REST in which a DEED is UNDONE, or FELL. BAD; NONE (also if it is so by now).");
        LeftUndoes x = two();
        // 0 is UNDONE in YEAR 2; 1 FELL in it; 2 isn't
        dueAll("until", each(0, 2, x::until), 2, 2, NONE);
        x.ends(2);
        dueAll("END is that YEAR", each(0, 2, x::until), NONE, NONE, NONE);
        x.ends(3);
        dueAll("END is behind that YEAR", each(0, 2, x::until), 2, 2, NONE);
        years(x, 2);
        dueAll("in the YEAR itself", each(0, 2, x::until), 2, 2, NONE);
        years(x, 1);
        dueAll("UNDONE, FELL by now", each(0, 2, x::until), NONE, NONE, NONE);
        LeftUndoes early = single();
        told(early, "hand early 9;");
        due("YEAR 0", early.until(0), 0);
        LeftUndoes late = people(2, 1, 9);
        late.deed(0, 13, 1, -1);
        late.deed(0, 14, 1, -1);
        late.ends(16);
        dueAll("YEAR 15, and none behind it", all(late.until(0), late.until(1)), 15, NONE);
        LeftUndoes never = people(2, 9, 9);
        never.deed(0, 9, 1, -1);
        never.deed(0, 0, 1, 0);
        due("what FAILED", never.until(1), NONE);
        due("what is never done in time", weak().until(0), NONE);
        for (int d : new int[] {-1, 7, 10, LEAST, MOST}) refused("until(" + d + ")", Worlds::rich, o -> o.until(d), BAD);
        refused("until, so by now", Worlds::rich, o -> o.until(0), NONE);
    }

    /** A forger's DEED 0; DEEDS 1 (that needs it) and 2 of one who never comes to undo them. */
    private static LeftUndoes two() {
        LeftUndoes x = people(2, 1, 9, 2, 9, 1);
        x.deed(0, 0, 1, -1);
        x.deed(1, 0, 2, 0);
        x.deed(1, 0, 4, -1);
        return x;
    }

    private static void overdue() {
        promise(18, "PEOPLE of whom a DEED is OVERDUE in the last YEAR ahead of END, behind THE REST, as a set.");
        LeftUndoes x = weak();
        for (int end = 1; end <= 16; end++) {
            x.ends(end);
            due("overdue(), END " + end + ", DUE 3", x.overdue(), end >= 5 ? 1 : 0);
        }
        LeftUndoes y = people(2, 1, 9, 4, 1, 1, 4, 2, 1, 4, 9, 1, 2, 1, 9, 4, 1, 1);
        for (int p = 0; p < 6; p++) y.deed(p, 0, 1, -1);
        // slow ones, too weak: DUE in 3, 4, 11, 3; in YEAR 11 the third one isn't late yet
        due("overdue() of six", y.overdue(), 2 + 4 + 32);
        y.ends(13);
        due("overdue() of six, END 13", y.overdue(), 2 + 4 + 8 + 32);
        LeftUndoes z = weak();
        years(z, 12);
        due("OVER", z.overdue(), 1);
        LeftUndoes w = weak();
        years(w, 4);
        w.ends(4);
        due("OVER, the last YEAR was 3", w.overdue(), 0);
        due("nobody", new LeftUndoes().overdue(), 0);
        LeftUndoes v = single();
        told(v, "hand late 3;");
        due("OVERDUE in the meantime alone", v.overdue(), 0);
        v.ends(5);
        due("OVERDUE, END ahead of it", v.overdue(), 1);
    }

    private static void falls() {
        promise(19, "DEEDS that FELL, if one were UNDONE now, as a set. BAD; STATE: it doesn't STAND.");
        LeftUndoes x = people(2, 9, 9);
        x.deed(0, 0, 1, -1);
        for (int d = 1; d < 8; d++) x.deed(0, 0, 1, d - 1);
        x.deed(0, 0, 1, 0);
        x.deed(0, 9, 1, 0);
        x.year();
        // a chain of 0 to 7; 8 needs 0; 9 needs 0, and is OPEN
        dueAll("falls(0) to (9)", each(0, 9, x::falls), 510, 252, 248, 240, 224, 192, 128, 0, 0, STATE);
        refused("OPEN", Worlds::rich, o -> o.falls(5), STATE);
        refused("UNDONE", Worlds::rich, o -> o.falls(0), STATE);
        refused("FELL", Worlds::rich, o -> o.falls(1), STATE);
        refused("FAILED", Worlds::rich, o -> o.falls(4), STATE);
        due("falls(2)", rich().falls(2), 8);
        for (int d : new int[] {-1, 7, 10, LEAST, MOST}) refused("falls(" + d + ")", Worlds::rich, o -> o.falls(d), BAD);
    }

    private static void graceFor() {
        promise(20, "GRACE with which one makes THE REST WORTH most; of several the least. BAD.");
        // DUE in GRACE + 2, WORTH 5 up to it: the least GRACE that reaches the last YEAR
        int[] want = {1, 1, 1, 1, 2, 3, 4, 5, 6, 7, 8, 9, 9, 9, 9, 9};
        for (int end = 1; end <= 16; end++) {
            LeftUndoes x = weak();
            x.ends(end);
            due("graceFor(0), END " + end, x.graceFor(0), want[end - 1]);
        }
        LeftUndoes y = single();
        due("DUE in 12, which is END", y.graceFor(0), 6);
        told(y, "hand if grace>3 early 99;");
        due("more GRACE is WORTH less by a RULE", y.graceFor(0), 3);
        told(y, "hand if grace<9 early 99;");
        due("the most GRACE", y.graceFor(0), 9);
        LeftUndoes z = people(2, 1, 9, 2, 5, 9);
        z.deed(0, 0, 1, -1);
        due("one without DEEDS: all alike", z.graceFor(1), 1);
        due("OVER: all alike", over().graceFor(0), 1);
        LeftUndoes w = weak();
        w.change(0, 1, 9);
        w.ends(4);
        due("not the one that it has", w.graceFor(0), 1);
        due("GRACE is as it was", w.personOf(0, 1), 9);
        due("DUE is as it was", w.deedOf(0, 5), 11);
        for (int p : new int[] {-1, 4, LEAST, MOST}) refused("graceFor(" + p + ")", Worlds::rich, o -> o.graceFor(p), BAD);
    }

    private static LeftUndoes oneDeed(int kind, int weight) {
        LeftUndoes x = people(kind, 1, 5);
        x.deed(0, 0, weight, -1);
        return x;
    }

    private static void strengthFor() {
        promise(21, "The least STRENGTH with which nothing of one is OVERDUE likewise. BAD; NONE.");
        dueAll("forger, WEIGHT 1 to 9", each(1, 9, w -> oneDeed(2, w).strengthFor(0)), 1, 2, 3, 4, 5, 6, 7, 8, 9);
        dueAll("clasped, WEIGHT 1 to 9", each(1, 9, w -> oneDeed(1, w).strengthFor(0)), 1, 2, 3, 4, 5, 6, 7, 8, 9);
        dueAll("twin, WEIGHT 1 to 9", each(1, 9, w -> oneDeed(3, w).strengthFor(0)), 1, 1, 2, 3, 4, 5, 6, 7, 8);
        dueAll("slow, WEIGHT 1 to 9", each(1, 9, w -> oneDeed(4, w).strengthFor(0)), 2, 4, 6, 8, NONE, NONE, NONE, NONE, NONE);
        dueAll("heir, WEIGHT 1 to 9", each(1, 9, w -> oneDeed(5, w).strengthFor(0)), 1, 1, 1, 1, 1, 1, 1, 1, 1);
        LeftUndoes x = oneDeed(4, 9);
        x.ends(4);
        due("not OVERDUE in the last YEAR, 3", x.strengthFor(0), 1);
        x.ends(5);
        due("OVERDUE in the last YEAR, 4", x.strengthFor(0), NONE);
        due("STRENGTH is as it was", x.personOf(0, 2), 5);
        LeftUndoes y = people(4, 1, 1, 2, 1, 1, 1, 1, 1);
        y.deed(0, 0, 9, -1);
        y.deed(1, 0, 6, -1);
        dueAll("of one alone", each(0, 2, y::strengthFor), NONE, 6, 1);
        for (int p : new int[] {-1, 4, LEAST, MOST}) refused("strengthFor(" + p + ")", Worlds::rich, o -> o.strengthFor(p), BAD);
        refused("strengthFor, none", Worlds::weak, o -> o.strengthFor(0), NONE);
    }
}
