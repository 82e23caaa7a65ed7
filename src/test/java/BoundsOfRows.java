/** ROWS and THE READER of Terms, section 3; promises 41 to 44. */
final class BoundsOfRows extends Worlds {
    static void run() {
        ofRows();
        ofTheReader();
        prove();
        row();
        alterRow();
        judge();
    }

    private static void rowsAre(LeftUndoes x, int[]... rows) {
        due("how many ROWS", x.many(4), rows.length);
        for (int k = 0; k < rows.length; k++) {
            int at = k;
            dueAll("ROW " + k, each(0, 2, what -> x.row(at, what)), rows[k]);
        }
    }

    private static void ofRows() {
        terms("ROWS of the FIRST of the BEST PLANS: for each YEAR (ACT, what it is WORTH, DEEDS that STAND behind it, as a set).");
        LeftUndoes x = single();
        x.deed(0, 1, 1, -1);
        // DUE in 2 and 3; HELD in 2 both are WORTH 4 in it; then one of them is OVERDUE, and the other one can be HELD, too
        due("prove(4)", x.prove(4), 4);
        rowsAre(x, new int[] {0, 3, 1}, new int[] {0, 4, 3}, new int[] {1, 4, 3}, new int[] {0, 1, 2});
        // DUE in YEAR 3, and never undone: from how it is in YEAR 2
        LeftUndoes y = years(weak(), 2);
        due("THE REST is asked ahead of it", y.on(16), 10);
        due("prove(3)", y.prove(3), 3);
        rowsAre(y, new int[] {0, 5, 1}, new int[] {0, 5, 1}, new int[] {0, 0, 1});
        LeftUndoes z = years(weak(), 2);
        due("prove(1)", z.prove(1), 1);
        rowsAre(z, new int[] {0, 5, 1});
        due("nothing went by", z.state(0), 2);
    }

    private static void ofTheReader() {
        terms("THE READER takes ROWS as a PLAN, from how it is now: right is one whose ACT is one, if it isn't OVER, "
            + "the others as they are then.");
        LeftUndoes x = single();
        x.prove(4);
        rowsAre(x, new int[] {0, 3, 1}, new int[] {0, 3, 1}, new int[] {1, 3, 1}, new int[] {0, 0, 0});
        due("all right", x.judge(), 0);
        for (int k = 0; k < 4; k++) {
            int act = x.row(k, 0), worth = x.row(k, 1), set = x.row(k, 2);
            for (int no : new int[] {-1, 2, 7, LEAST, MOST}) {
                x.alterRow(k, 0, no);
                due("an ACT that is none in ROW " + k, x.judge(), k + 1);
            }
            x.alterRow(k, 0, act);
            for (int other : new int[] {worth - 1, worth + 1, LEAST, MOST}) {
                x.alterRow(k, 1, other);
                due("another WORTH in ROW " + k, x.judge(), k + 1);
            }
            x.alterRow(k, 1, worth);
            for (int other : new int[] {set ^ 1, set ^ 2, set ^ LEAST}) {
                x.alterRow(k, 2, other);
                due("another set in ROW " + k, x.judge(), k + 1);
            }
            x.alterRow(k, 2, set);
        }
        due("all right again", x.judge(), 0);
        x.alterRow(0, 0, 1);
        due("another ACT that comes to the same", x.judge(), 0);
        x.alterRow(2, 0, 0);
        due("an ACT by which the others aren't so", x.judge(), 3);
        x.alterRow(2, 0, 1);
        x.ends(4);
        due("END is behind the fourth", x.judge(), 0);
        x.ends(3);
        due("OVER ahead of the fourth", x.judge(), 4);
        x.ends(1);
        due("OVER ahead of the second", x.judge(), 2);
        x.ends(12);
        years(x, 1);
        due("from how it is now: the second is the YEAR 2", x.judge(), 2);
        years(x, 11);
        due("OVER", x.judge(), 1);
        LeftUndoes y = eagerLast();
        due("the last one's ACT", y.row(0, 0), 6);
        due("all right", y.judge(), 0);
        y.again();
        due("that one isn't there any more", y.judge(), 1);
    }

    /** Of six PEOPLE, the last of whom isn't kept, it is HELD in the one ROW. */
    private static LeftUndoes eagerLast() {
        LeftUndoes x = people(2, 1, 1, 2, 1, 1, 2, 1, 1, 2, 1, 1, 2, 1, 1);
        x.keep();
        x.person(2, 1, 9);
        x.deed(5, 0, 3, -1);
        told(x, "hand early 99;");
        x.prove(1);
        return x;
    }

    private static void prove() {
        promise(41, "ROWS of the FIRST of the BEST PLANS of n (0 to 4): how many. BAD.");
        LeftUndoes x = single();
        dueAll("prove(4) to prove(0)", each(0, 4, k -> x.prove(4 - k)), 4, 3, 2, 1, 0);
        due("many(4)", x.many(4), 0);
        x.prove(3);
        x.ends(2);
        due("prove(4), two YEARS", x.prove(4), 2);
        due("many(4)", x.many(4), 2);
        years(x, 2);
        due("ROWS stay as YEARS go by", x.many(4), 2);
        due("prove(4), OVER", x.prove(4), 0);
        due("many(4)", x.many(4), 0);
        due("nobody", new LeftUndoes().prove(4), 4);
        for (int n : new int[] {-1, 5, LEAST, MOST}) refused("prove(" + n + ")", Worlds::rich, o -> o.prove(n), BAD);
    }

    private static void row() {
        promise(42, "Of ROW k: what = 0 ACT, 1 WORTH, 2 the DEEDS that STAND. -9: there is none such, another what.");
        LeftUndoes x = single();
        x.prove(4);
        rowsAre(x, new int[] {0, 3, 1}, new int[] {0, 3, 1}, new int[] {1, 3, 1}, new int[] {0, 0, 0});
        due("of the fourth ROW there is no other what", x.row(3, 3), NO_ROW);
        int[][] none = {{-1, 0}, {2, 0}, {3, 0}, {4, 0}, {0, -1}, {0, 3}, {LEAST, 0}, {MOST, 0}, {0, LEAST}, {0, MOST}};
        for (int[] no : none) refused("row" + java.util.Arrays.toString(no), Worlds::rich, o -> o.row(no[0], no[1]), NO_ROW);
        due("no ROWS at first", new LeftUndoes().row(0, 0), NO_ROW);
        x.prove(0);
        due("no ROWS any more", x.row(0, 0), NO_ROW);
    }

    private static void alterRow() {
        promise(43, "It becomes v: what it was. -9 likewise.");
        LeftUndoes x = single();
        x.prove(2);
        for (int k = 0; k < 2; k++) {
            for (int what = 0; what < 3; what++) {
                int was = x.row(k, what);
                dueAll("alterRow", all(x.alterRow(k, what, LEAST), x.alterRow(k, what, MOST), x.alterRow(k, what, -9), x.row(k, what)),
                    was, LEAST, MOST, -9);
            }
        }
        int[][] none = {{-1, 0}, {2, 0}, {3, 0}, {4, 0}, {0, -1}, {0, 3}, {LEAST, 0}, {MOST, 0}, {0, LEAST}, {0, MOST}};
        for (int[] no : none) refused("alterRow" + java.util.Arrays.toString(no), Worlds::rich, o -> o.alterRow(no[0], no[1], 5), NO_ROW);
        due("no ROWS at first", new LeftUndoes().alterRow(0, 0, 5), NO_ROW);
    }

    private static void judge() {
        promise(44, "THE READER takes ROWS as such: 0 all is right; else the first ROW that isn't, and 1 more.");
        due("no ROWS", new LeftUndoes().judge(), 0);
        due("no ROWS, OVER", over().judge(), 0);
        LeftUndoes x = weak();
        x.prove(4);
        due("all right", x.judge(), 0);
        for (int k = 3; k >= 0; k--) {
            x.alterRow(k, 1, 4);
            due("the first that isn't", x.judge(), k + 1);
        }
        x.alterRow(0, 1, 5);
        due("the first that isn't", x.judge(), 2);
    }
}
