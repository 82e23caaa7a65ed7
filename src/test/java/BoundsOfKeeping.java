/** Refusals of Terms, ahead of the sections; promises 55 and 56. */
final class BoundsOfKeeping extends Worlds {
    static void run() {
        ofRefusals();
        ofLooks();
        ofTheirOrder();
        keep();
        again();
        ofManyCalls();
    }

    private static void ofRefusals() {
        terms("Answers below 0, where not told otherwise, are refusals; such a call changes nothing (but that THE TAPE is used up by rules());");
        // each call's own refusals stand at its promise; here one of each call, on an object that has something of all
        refused("person", Worlds::rich, x -> x.person(0, 1, 1), BAD);
        refused("personOf", Worlds::rich, x -> x.personOf(4, 0), BAD);
        refused("change", Worlds::rich, x -> x.change(0, 1, 10), BAD);
        refused("remake", Worlds::rich, x -> x.remake(0, 0), BAD);
        refused("deed", Worlds::rich, x -> x.deed(0, 2, 1, -1), STATE);
        refused("deedOf", Worlds::rich, x -> x.deedOf(7, 0), BAD);
        refused("ends", Worlds::rich, x -> x.ends(2), STATE);
        refused("state", Worlds::rich, x -> x.state(4), BAD);
        refused("feed", Worlds::rich, x -> x.feed(0, 9), BAD);
        refused("year", Worlds::over, LeftUndoes::year, STATE);
        refused("standing", Worlds::rich, x -> x.standing(5), BAD);
        refused("falls", Worlds::rich, x -> x.falls(0), STATE);
        refused("owe", Worlds::rich, x -> x.owe(1, 1, 1), BAD);
        refused("ring", Worlds::rich, x -> x.ring(3), NONE);
        refused("ith", Worlds::rich, x -> x.ith(2, 2), NONE);
        refused("life", Worlds::rich, x -> x.life(4, 1), NONE);
        refused("bars", Worlds::rich, x -> x.bars(4, 0), NONE);
        refused("report", Worlds::rich, x -> x.report(1, 1, 1, 2), BAD);
        refused("lot", Worlds::over, LeftUndoes::lot, STATE);
        refused("prove", Worlds::rich, x -> x.prove(5), BAD);
        refused("alterRow", Worlds::rich, x -> x.alterRow(2, 0, 1), NO_ROW);
        refused("sheet", Worlds::rich, x -> x.sheet(0, 0, -1), BELOW);
        refused("write", Worlds::rich, x -> x.write(0, 5, 1), OUTSIDE);
        refused("goAll", Worlds::rich, x -> x.goAll(1, 0, 5), OTHER);
        refused("shelf", Worlds::rich, x -> x.shelf(0, 0, 4), BAD);
        LeftUndoes x = rich();
        // behind the 11 bytes that are there
        due("rules(), a FAULT", told(x, " hand"), -116);
        LeftUndoes y = rich();
        y.rules();
        told(y, "heir if year=12 spare; forger if year>4 early 1;");
        dueText("but for THE TAPE all is as it was", Sight.of(x), Sight.of(y));
    }

    private static void sees(String call, Ask ask) {
        LeftUndoes x = rich();
        ask.of(x);
        due("a look sees that there was " + call, Sight.of(x).equals(Sight.of(rich())) ? 1 : 0, 0);
    }

    /** That nothing changed tells something only if a look sees what changes. */
    private static void ofLooks() {
        terms("such a call changes nothing");
        sees("person", x -> x.person(1, 1, 1));
        sees("change", x -> x.change(3, 1, 9) + x.personOf(3, 1));
        sees("remake", x -> x.remake(3, 4));
        sees("deed", x -> x.deed(0, 3, 1, -1));
        sees("ends", x -> x.ends(13));
        sees("anew", LeftUndoes::anew);
        sees("feed", x -> x.feed(32, 1));
        sees("feed, with no FAULT", x -> { feed(x, "twin spare;"); return 0; });
        sees("rules", LeftUndoes::rules);
        sees("rules, told", x -> { x.rules(); return told(x, "heir if year=12 spare; forger if year>3 early 1;"); });
        sees("year", LeftUndoes::year);
        sees("lot", LeftUndoes::lot);
        sees("owe", x -> x.owe(2, 3, 1));
        sees("report", x -> x.report(5, 5, 5, 0));
        sees("forget", LeftUndoes::forget);
        sees("seed", x -> x.seed(-6));
        sees("prove", x -> x.prove(1));
        for (int k = 0; k < 6; k++) {
            int at = k;
            sees("alterRow", x -> x.alterRow(at / 3, at % 3, -5));
        }
        for (int s = 0; s < 4; s++) {
            int of = s;
            sees("sheet", x -> x.sheet(of, 2, 4));
            sees("shelf", x -> x.shelf(of, 0, 2));
        }
        for (int i = 0; i < 5; i++) {
            int at = i;
            sees("write", x -> x.write(0, at, 55));
        }
        sees("goAll", x -> x.goAll(0, 0, 1));
        sees("act", x -> x.act(0, 1, 1));
        sees("act of none", x -> x.act(2, 1, 1));
        sees("keep", LeftUndoes::keep);
        sees("again", LeftUndoes::again);
    }

    private static void ofTheirOrder() {
        terms("of several the first named: BAD (-1) there is no such thing, or a number is not as told; FULL (-2); NONE (-3); STATE (-4); "
            + "and what the host refuses: -11 nothing where something is asked, -12 a place outside, -13 a thing of another sort or kind, "
            + "-14 a size below 0, -15 parted by 0.");
        dueAll("the constants", all(LeftUndoes.BAD, LeftUndoes.FULL, LeftUndoes.NONE, LeftUndoes.STATE), -1, -2, -3, -4);
        due("BAD ahead of FULL: person", six().person(1, 1, 10), BAD);
        due("BAD ahead of FULL: deed", tenDeeds().deed(0, 0, 1, 10), BAD);
        due("BAD ahead of FULL: report", sixReports().report(1, 0, 32, 0), BAD);
        due("FULL ahead of STATE: deed", years(tenDeeds(), 1).deed(0, 0, 1, -1), FULL);
        due("BAD ahead of STATE: deed", years(single(), 1).deed(0, 0, 1, 1), BAD);
        due("BAD ahead of STATE: ends", years(single(), 1).ends(0), BAD);
        due("BAD ahead of NONE: ith", over().ith(4, 4), BAD);
        due("BAD ahead of NONE: life", single().life(5, 1), BAD);
        due("BAD ahead of NONE: bars", single().bars(5, 0), BAD);
        due("BAD ahead of NONE: play", over().play(0), BAD);
        LeftUndoes x = rich();
        dueAll("BAD ahead of what the host refuses", all(x.sheet(0, 5, -1), x.write(4, 0, 0), x.item(2, 5, -1), x.goAll(2, 9, 21),
            x.wouldBe(1, 9, -1), x.taken(2, 6)), BAD, BAD, BAD, BAD, BAD, BAD);
        dueAll("-13 ahead of -12", all(x.item(1, 0, 9), x.goAll(1, 9, 9), x.wouldBe(3, -1, 9)), OTHER, OTHER, OTHER);
        dueAll("-11 ahead of -12", all(x.write(2, 9, 0), x.item(2, 0, 9), x.goAll(2, 9, 9), x.wouldBe(2, -1, 9)),
            NOTHING, NOTHING, NOTHING, NOTHING);
    }

    private static void keep() {
        promise(55, "All but THE TAPE, ROWS, SHEETS, SHELVES, THE TRACE is kept: 1.");
        due("of nothing", new LeftUndoes().keep(), 1);
        LeftUndoes x = rich();
        due("keep()", x.keep(), 1);
        // all of it becomes another one
        x.rules();
        x.anew();
        x.ends(5);
        for (int p = 0; p < 4; p++) {
            x.change(p, 1, 9 - p);
            x.change(p, 2, p + 1);
            x.remake(p, 5 - p);
            for (int q = 0; q < 4; q++) if (q != p) x.owe(p, q, 50 + p * 4 + q);
        }
        x.person(5, 5, 5);
        x.owe(4, 0, 3);
        x.owe(0, 4, 3);
        x.deed(4, 0, 9, 6);
        x.deed(4, 1, 9, -1);
        x.deed(1, 2, 9, -1);
        x.forget();
        for (int r = 0; r < 6; r++) x.report(9, 15, r, 1);
        told(x, "hand spare; hand late 3; twin early 9;");
        x.seed(1000);
        years(x, 4);
        feed(x, "heir spare;");
        x.prove(0);
        for (int s = 0; s < 4; s++) {
            bytes(x, s, s, s + 1);
            x.shelf(s, 0, 3 - s);
        }
        x.act(3, 0, 0);
        due("again()", x.again(), 4);
        // as rich() is, but for those that aren't kept
        LeftUndoes y = rich();
        y.rules();
        told(y, "heir if year=12 spare; forger if year>4 early 1;");
        y.keep();
        feed(y, "heir spare;");
        y.prove(0);
        for (int s = 0; s < 4; s++) {
            bytes(y, s, s, s + 1);
            y.shelf(s, 0, 3 - s);
        }
        x.act(3, 0, 0);
        y.act(3, 0, 0);
        dueText("all that can be seen", Sight.of(x), Sight.of(y));
    }

    /** Whether an object with other things goes back to one with fewer of them. */
    private static void again() {
        promise(56, "It becomes what was kept latest (which stays): how many PEOPLE. NONE: nothing is kept.");
        refused("nothing is kept", LeftUndoes::new, LeftUndoes::again, NONE);
        refused("nothing is kept", Worlds::weak, LeftUndoes::again, NONE);
        LeftUndoes none = new LeftUndoes();
        none.keep();
        dueAll("of nobody", all(none.person(1, 1, 1), none.again(), none.many(0), none.again()), 0, 0, 0, 0);
        LeftUndoes x = tenDeeds();
        x.keep();
        years(x, 3);
        x.change(0, 1, 9);
        dueAll("again, and again", all(x.again(), x.state(0), x.personOf(0, 1), x.year(), x.again(), x.state(0)), 2, 0, 1, 1, 2, 0);
        x.year();
        x.keep();
        x.year();
        dueAll("the latest", all(x.again(), x.state(0), x.state(2)), 2, 1, 1);
        // what is kept stays whatever comes behind again()
        x.change(0, 1, 5);
        x.remake(1, 4);
        x.owe(0, 1, 9);
        x.report(1, 1, 1, 1);
        told(x, "hand spare;");
        x.seed(9);
        x.ends(3);
        dueAll("it stays", all(x.again(), x.personOf(0, 1), x.personOf(1, 0), x.owes(0, 1), x.many(3), x.many(1), x.seed(1), x.state(1)),
            2, 1, 2, 0, 0, 0, 1, 12);
        // six PEOPLE, ten DEEDS and six REPORTS come back over none
        LeftUndoes y = full();
        y.keep();
        y.forget();
        y.rules();
        y.anew();
        due("full again", y.again(), 6);
        LeftUndoes z = full();
        z.keep();
        dueText("all that can be seen", Sight.of(y), Sight.of(z));
    }

    private static void ofManyCalls() {
        about("An object is used for at most 512 calls after it has been made; what later calls answer is free.");
        LeftUndoes x = new LeftUndoes();
        x.person(2, 1, 9);
        x.deed(0, 0, 3, -1);
        x.keep();
        int calls = 3;
        // 5 calls each: 100 times; with each the same comes again
        for (int k = 0; k < 100; k++) {
            dueAll("round " + k, all(x.year(), x.on(16), x.prove(4), x.again(), x.state(2)), 3, 3, 4, 1, 0);
            calls += 5;
        }
        while (calls < 511) {
            x.feed(32, 1);
            calls++;
        }
        due("the 512th call", x.many(5), 8);
    }

    private static LeftUndoes full() {
        LeftUndoes x = six();
        for (int p = 0; p < 5; p++) x.owe(p, p + 1, 90 + p);
        for (int d = 0; d < 10; d++) x.deed(d % 6, d % 4, d % 9 + 1, d % 3 - 1);
        for (int r = 0; r < 6; r++) x.report(r + 1, r, 31 - r, 1);
        told(x, "hand if stands>5 early 1; slow spare;");
        x.seed(-99);
        return years(x, 2);
    }
}
