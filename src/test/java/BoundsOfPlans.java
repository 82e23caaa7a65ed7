/** PLANS and the GAME of Terms, section 3; promises 27 to 33. */
final class BoundsOfPlans extends Worlds {
    static void run() {
        ofPlans();
        ofBest();
        ofLives();
        ofBars();
        ofGames();
        best();
        ith();
        ways();
        life();
        bars();
        game();
        play();
    }

    /** Whose DEED 0 (WEIGHT 3) is undone in each YEAR from 0 on, if who did it isn't HELD; the others do nothing. */
    private static LeftUndoes eager(int others) {
        LeftUndoes x = people(2, 9, 9);
        for (int k = 0; k < others; k++) x.person(2, 1, 1);
        x.deed(0, 0, 3, -1);
        told(x, "hand early 99;");
        return x;
    }

    /** The first n ACTS of the FIRST. */
    private static int[] first(LeftUndoes x, int n) {
        return each(0, n - 1, i -> x.ith(n, i));
    }

    private static void ofPlans() {
        terms("A PLAN of n: n YEARS (fewer, if it is OVER), ahead of each an ACT: 0 nobody, or 1 more than the number of who is HELD in it.");
        // with p PEOPLE each of n YEARS has p + 1 ACTS, all alike without DEEDS
        for (int p = 0; p <= 6; p++) {
            LeftUndoes x = new LeftUndoes();
            for (int k = 0; k < p; k++) x.person(1, 1, 1);
            int acts = p + 1;
            dueAll("ways of " + p + " PEOPLE", each(0, 4, x::ways), 1, acts, acts * acts, acts * acts * acts, acts * acts * acts * acts);
            x.ends(2);
            dueAll("ways, END 2", each(0, 4, x::ways), 1, acts, acts * acts, acts * acts, acts * acts);
            years(x, 1);
            dueAll("ways, one YEAR is left", each(0, 4, x::ways), 1, acts, acts, acts, acts);
            years(x, 1);
            dueAll("ways, OVER", each(0, 4, x::ways), 1, 1, 1, 1, 1);
        }
        LeftUndoes y = eager(5);
        dueAll("who is HELD is 1 less than the ACT", first(y, 4), 1, 1, 1, 1);
        LeftUndoes z = people(2, 1, 1, 2, 1, 1, 2, 1, 1, 2, 1, 1, 2, 1, 1, 2, 9, 9);
        z.deed(5, 0, 3, -1);
        told(z, "hand early 99;");
        dueAll("the last one HELD", first(z, 4), 6, 6, 6, 6);
        terms("Its WORTH: of these YEARS together.");
        dueAll("WORTH", each(0, 4, y::best), 0, 3, 6, 9, 12);
        y.ends(2);
        dueAll("WORTH, END 2", each(0, 4, y::best), 0, 3, 6, 6, 6);
        LeftUndoes w = weak();
        years(w, 2);
        dueAll("SCORE isn't in it", each(0, 4, w::best), 0, 5, 10, 10, 10);
    }

    private static void ofBest() {
        terms("BEST: those with most WORTH; the FIRST of these is that with the lesser ACT where they are unlike first.");
        // DUE in YEAR 2 and undone in it: only from then on an ACT counts
        LeftUndoes x = single();
        dueAll("FIRST of 4: in YEAR 3 it is OVERDUE", first(x, 4), 0, 0, 1, 0);
        due("ways(4)", x.ways(4), 8);
        LeftUndoes y = people(1, 1, 9, 1, 1, 9);
        y.deed(0, 0, 3, -1);
        y.deed(1, 0, 3, -1);
        // in YEAR 1 one of two can be HELD
        dueAll("FIRST of alike ones", first(y, 2), 0, 1);
        due("ways(2)", y.ways(2), 6);
        due("best(2)", y.best(2), 9);
        LeftUndoes z = people(1, 1, 9, 1, 1, 9);
        z.deed(0, 0, 3, -1);
        z.deed(1, 0, 4, -1);
        dueAll("more WORTH is ahead of a lesser ACT", first(z, 2), 0, 2);
        due("best(2)", z.best(2), 7 + 4);
        due("ways(2)", z.ways(2), 3);
    }

    private static void ofLives() {
        terms("LIFE of n for a set of DEEDS: the fewest ACTS that aren't 0 in a PLAN of n behind which all of them STAND.");
        LeftUndoes x = eager(5);
        dueAll("HELD in each YEAR", each(0, 4, n -> x.life(n, 1)), NONE, 1, 2, 3, 4);
        dueAll("no DEEDS", each(0, 4, n -> x.life(n, 0)), 0, 0, 0, 0, 0);
        LeftUndoes y = single();
        dueAll("HELD from YEAR 2 on", each(0, 4, n -> y.life(n, 1)), NONE, 0, 0, 1, 2);
        y.year();
        dueAll("a YEAR later", each(0, 4, n -> y.life(n, 1)), 0, 0, 1, 2, 3);
        LeftUndoes z = people(1, 1, 9, 1, 1, 9);
        z.deed(0, 0, 3, -1);
        z.deed(1, 0, 3, -1);
        dueAll("either, both", all(z.life(1, 3), z.life(2, 1), z.life(2, 2), z.life(2, 3)), 0, 1, 1, NONE);
        LeftUndoes w = weak();
        dueAll("STANDS for good", each(0, 4, n -> w.life(n, 1)), NONE, 0, 0, 0, 0);
    }

    private static void ofBars() {
        terms("BAR: the least of them that STANDS behind no PLAN of n.");
        LeftUndoes x = people(2, 1, 9);
        for (int d = 0; d < 10; d++) x.deed(0, d < 2 ? 0 : d / 2, 1, -1);
        // of YEARS 0 0 1 1 2 2 3 3 4 4
        dueAll("all ten", each(0, 4, n -> x.bars(n, 1023)), 0, 2, 4, 6, 8);
        dueAll("the last one", each(0, 4, n -> x.bars(n, 512)), 9, 9, 9, 9, 9);
        dueAll("5 and 9", each(0, 4, n -> x.bars(n, 544)), 5, 5, 5, 9, 9);
        dueAll("none", each(0, 4, n -> x.bars(n, 0)), NONE, NONE, NONE, NONE, NONE);
        LeftUndoes y = people(1, 1, 9, 1, 1, 9);
        y.deed(0, 0, 3, -1);
        y.deed(1, 0, 3, -1);
        due("each STANDS behind some, though both behind none", y.bars(2, 3), NONE);
        LeftUndoes z = people(2, 1, 9, 2, 9, 9);
        z.deed(0, 3, 1, -1);
        z.deed(1, 0, 1, 0);
        z.deed(1, 0, 1, -1);
        dueAll("what FAILED", all(z.bars(4, 7), z.bars(4, 5), z.bars(4, 6)), 1, NONE, 1);
    }

    private static void ofGames() {
        terms("GAME of n: two in turn, ahead of n YEARS (till it is OVER) each an ACT (also 0); the first one wants as much WORTH as can be, "
            + "the other one as little.");
        LeftUndoes x = eager(1);
        dueAll("the other one lets it be undone in YEAR 1", each(1, 4, x::game), 3, 3, 3, 3);
        LeftUndoes y = single();
        dueAll("YEARS 0, 2 are the first one's", each(1, 4, y::game), 3, 6, 9, 9);
        y.year();
        dueAll("YEAR 2 is the other one's", each(1, 4, y::game), 3, 3, 3, 3);
        y.year();
        dueAll("YEAR 2 is the first one's again", each(1, 4, y::game), 3, 3, 3, 3);
        y.ends(3);
        y.anew();
        dueAll("till it is OVER", each(1, 4, y::game), 3, 6, 9, 9);
        y.ends(1);
        dueAll("till it is OVER", each(1, 4, y::game), 3, 3, 3, 3);
        // the other one gains by an ACT, too: if 0 isn't undone by its own one, 1 is by a RULE
        LeftUndoes z = people(1, 1, 9, 1, 1, 9);
        z.deed(0, 0, 1, -1);
        z.deed(1, 0, 9, -1);
        z.deed(1, 0, 1, 0);
        told(z, "hand if number=0 early 0; hand if stands=10 and year=1 early 9; hand spare;");
        // YEAR 1: else 0 is undone, 2 falls with it, and 9 are left; 0 HELD: 10 STAND of the other one, 2 are left
        due("the other one HOLDS the first of PEOPLE", z.game(2), 11 + 2);
        due("alone it would be more", z.best(2), 11 + 9);
        terms("VALUE: that, if both play as well as they can.");
        LeftUndoes far = people(2, 9, 9, 2, 9, 9);
        far.deed(0, 0, 4, -1);
        far.deed(1, 0, 5, -1);
        told(far, "hand if number=0 and year>0 spare; hand early 99;");
        // of both one is kept in YEAR 0: 5; or 4, which nobody undoes later
        dueAll("less now for more later", each(1, 4, far::game), 5, 8, 12, 16);
        dueAll("ACTS", each(1, 4, far::play), 2, 1, 1, 1);
        LeftUndoes w = people(2, 9, 9, 2, 9, 9);
        w.deed(0, 0, 4, -1);
        w.deed(1, 0, 5, -1);
        told(w, "hand early 99;");
        // 5 is kept in YEAR 0, and lost in 1
        dueAll("one of two is kept", each(1, 4, w::game), 5, 5, 5, 5);
        due("ACT", w.play(1), 2);
    }

    private static void best() {
        promise(27, "WORTH of the BEST PLANS of n (0 to 4). BAD.");
        dueAll("best(0) to best(4)", each(0, 4, eager(5)::best), 0, 3, 6, 9, 12);
        dueAll("OVER", each(0, 4, over()::best), 0, 0, 0, 0, 0);
        dueAll("nobody", each(0, 4, new LeftUndoes()::best), 0, 0, 0, 0, 0);
        for (int n : new int[] {-1, 5, LEAST, MOST}) {
            refused("best(" + n + ")", Worlds::rich, x -> x.best(n), BAD);
            due("best(" + n + "), OVER", over().best(n), BAD);
        }
        LeftUndoes x = people(4, 9, 1);
        for (int d = 0; d < 10; d++) x.deed(0, 0, 9, -1);
        due("the most WORTH", x.best(4), 360);
    }

    private static void ith() {
        promise(28, "The i-th (0 to 3) ACT of the FIRST of them. BAD; NONE: it has not so many.");
        LeftUndoes x = single();
        dueAll("ith of 4", each(0, 3, i -> x.ith(4, i)), 0, 0, 1, 0);
        dueAll("ith of 3", each(0, 3, i -> x.ith(3, i)), 0, 0, 1, NONE);
        dueAll("ith of 1", each(0, 3, i -> x.ith(1, i)), 0, NONE, NONE, NONE);
        dueAll("ith of 0", each(0, 3, i -> x.ith(0, i)), NONE, NONE, NONE, NONE);
        x.ends(3);
        dueAll("ith of 4, END 3", each(0, 3, i -> x.ith(4, i)), 0, 0, 1, NONE);
        dueAll("ith of 4, OVER", each(0, 3, i -> over().ith(4, i)), NONE, NONE, NONE, NONE);
        int[][] bad = {{-1, 0}, {5, 0}, {4, -1}, {4, 4}, {0, 4}, {0, -1}, {LEAST, 0}, {MOST, 0}, {4, LEAST}, {4, MOST}};
        for (int[] b : bad) {
            refused("ith" + java.util.Arrays.toString(b), Worlds::rich, o -> o.ith(b[0], b[1]), BAD);
            due("ith" + java.util.Arrays.toString(b) + ", OVER: BAD ahead of NONE", over().ith(b[0], b[1]), BAD);
        }
        refused("ith, NONE", Worlds::rich, o -> o.ith(3, 3), NONE);
    }

    private static void ways() {
        promise(29, "How many of them there are. BAD.");
        dueAll("ways(0) to ways(4)", each(0, 4, single()::ways), 1, 2, 4, 4, 8);
        dueAll("one alone", each(0, 4, eager(5)::ways), 1, 1, 1, 1, 1);
        due("all of six PEOPLE", six().ways(4), 2401);
        dueAll("OVER", each(0, 4, over()::ways), 1, 1, 1, 1, 1);
        for (int n : new int[] {-1, 5, LEAST, MOST}) refused("ways(" + n + ")", Worlds::rich, x -> x.ways(n), BAD);
    }

    private static void life() {
        promise(30, "LIFE of n (0 to 4) for a set of DEEDS (of such as there are). BAD; NONE.");
        due("all ten, each in need of the one of a YEAR behind it", tenDeeds().life(4, 1023), NONE);
        LeftUndoes y = people(4, 9, 1);
        for (int d = 0; d < 10; d++) y.deed(0, d % 4, 9, -1);
        dueAll("all ten, the last YEAR of them is 3", each(0, 4, n -> y.life(n, 1023)), NONE, NONE, NONE, NONE, 0);
        dueAll("the set of all and one beyond", all(y.life(4, 1023), y.life(4, 1024), y.life(4, 2047)), 0, BAD, BAD);
        int[][] bad = {{-1, 0}, {5, 0}, {LEAST, 0}, {MOST, 0}, {4, 128}, {4, 255}, {4, -1}, {4, LEAST}, {4, MOST}, {0, 128}};
        for (int[] b : bad) refused("life" + java.util.Arrays.toString(b), Worlds::rich, o -> o.life(b[0], b[1]), BAD);
        refused("life, NONE", Worlds::rich, o -> o.life(4, 127), NONE);
        dueAll("no DEEDS", all(new LeftUndoes().life(4, 0), new LeftUndoes().life(4, 1)), 0, BAD);
        LeftUndoes z = years(weak(), 12);
        dueAll("OVER: those that STAND, and not", all(z.life(4, 1), z.life(0, 1), over().life(4, 1), over().life(4, 0)), 0, 0, NONE, 0);
    }

    private static void bars() {
        promise(31, "BAR likewise. BAD; NONE: each STANDS behind some.");
        LeftUndoes x = rich();
        // 2, 3 STAND; 5 is of YEAR 5, which is the third
        dueAll("bars", all(x.bars(0, 12), x.bars(0, 44), x.bars(2, 44), x.bars(3, 44), x.bars(4, 127)), NONE, 5, 5, NONE, 0);
        int[][] bad = {{-1, 0}, {5, 0}, {LEAST, 0}, {MOST, 0}, {4, 128}, {4, 255}, {4, -1}, {4, LEAST}, {4, MOST}, {0, 128}};
        for (int[] b : bad) refused("bars" + java.util.Arrays.toString(b), Worlds::rich, o -> o.bars(b[0], b[1]), BAD);
        refused("bars, NONE", Worlds::rich, o -> o.bars(4, 12), NONE);
        dueAll("no DEEDS", all(new LeftUndoes().bars(4, 0), new LeftUndoes().bars(4, 1)), NONE, BAD);
        due("the set of all ten", tenDeeds().bars(0, 1023), 0);
        due("one beyond", tenDeeds().bars(0, 1024), BAD);
        dueAll("OVER", all(over().bars(4, 1), over().bars(4, 0), years(weak(), 12).bars(4, 1)), 0, NONE, NONE);
    }

    private static void game() {
        promise(32, "VALUE of a GAME of n (1 to 4). BAD.");
        dueAll("game(1) to game(4)", each(1, 4, single()::game), 3, 6, 9, 9);
        dueAll("OVER", each(1, 4, over()::game), 0, 0, 0, 0);
        dueAll("nobody", each(1, 4, new LeftUndoes()::game), 0, 0, 0, 0);
        for (int n : new int[] {-1, 0, 5, LEAST, MOST}) {
            refused("game(" + n + ")", Worlds::rich, x -> x.game(n), BAD);
            due("game(" + n + "), OVER", over().game(n), BAD);
        }
    }

    private static void play() {
        promise(33, "The least ACT by which who begins comes to it. BAD; NONE: it is OVER.");
        dueAll("nobody need be HELD in YEAR 0", each(1, 4, single()::play), 0, 0, 0, 0);
        dueAll("in YEAR 2 who would undo it", each(1, 4, years(single(), 2)::play), 1, 1, 1, 1);
        dueAll("the only one of six", each(1, 4, eager(5)::play), 1, 1, 1, 1);
        LeftUndoes x = people(2, 1, 1, 2, 1, 1, 2, 1, 9, 2, 1, 9, 2, 1, 1, 2, 1, 1);
        x.deed(3, 0, 3, -1);
        x.deed(2, 0, 3, -1);
        told(x, "hand early 99;");
        dueAll("of two alike the least", each(1, 4, x::play), 3, 3, 3, 3);
        LeftUndoes y = people(2, 1, 1, 2, 1, 1, 2, 1, 1, 2, 1, 1, 2, 1, 1, 2, 1, 9);
        y.deed(5, 0, 3, -1);
        told(y, "hand early 99;");
        dueAll("the last one", each(1, 4, y::play), 6, 6, 6, 6);
        dueAll("nobody", each(1, 4, new LeftUndoes()::play), 0, 0, 0, 0);
        for (int n : new int[] {-1, 0, 5, LEAST, MOST}) {
            refused("play(" + n + ")", Worlds::rich, o -> o.play(n), BAD);
            refused("play(" + n + "), OVER", Worlds::over, o -> o.play(n), BAD);
        }
        for (int n = 1; n <= 4; n++) {
            int many = n;
            refused("play(" + n + "), OVER", Worlds::over, o -> o.play(many), NONE);
        }
        LeftUndoes z = eager(0);
        z.ends(1);
        due("one YEAR is left", z.play(4), 1);
    }
}
