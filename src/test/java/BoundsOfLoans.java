/** LOANS of Terms, section 3; promises 22 to 26. */
final class BoundsOfLoans extends Worlds {
    static void run() {
        ofLoans();
        ofNets();
        ofRings();
        ofPayments();
        owe();
        owes();
        net();
        ring();
        payments();
    }

    private static void ofLoans() {
        terms("LOANS: each of PEOPLE OWES each other one 0 to 99 (0 at first).");
        LeftUndoes x = six();
        int sum = 0;
        for (int p = 0; p < 6; p++) for (int q = 0; q < 6; q++) if (p != q) sum += x.owes(p, q);
        due("all at first", sum, 0);
        for (int p = 0; p < 6; p++) for (int q = 0; q < 6; q++) if (p != q) due("owe", x.owe(p, q, p * 6 + q), 0);
        for (int p = 0; p < 6; p++) for (int q = 0; q < 6; q++) if (p != q) due("owes", x.owes(p, q), p * 6 + q);
        dueAll("owe 99, 0", all(x.owe(5, 4, 99), x.owe(5, 4, 0), x.owes(5, 4)), 34, 99, 0);
        dueAll("owe 100, -1", all(x.owe(0, 1, 100), x.owe(0, 1, -1), x.owes(0, 1)), BAD, BAD, 1);
    }

    private static void ofNets() {
        terms("NET of one: all that is owed to it less all that it OWES.");
        LeftUndoes x = six();
        for (int q = 1; q < 6; q++) x.owe(0, q, 99);
        dueAll("one OWES 99 to all others", each(0, 5, x::net), 9505, 10099, 10099, 10099, 10099, 10099);
        LeftUndoes y = six();
        for (int p = 0; p < 5; p++) y.owe(p, 5, 99);
        dueAll("all others OWE 99 to one", each(0, 5, y::net), 9901, 9901, 9901, 9901, 9901, 10495);
        for (int p = 0; p < 5; p++) y.owe(5, p, 98);
        dueAll("and it 98 to each", each(0, 5, y::net), 9999, 9999, 9999, 9999, 9999, 10005);
    }

    private static void ofRings() {
        terms("RING of one: the fewest PEOPLE, it with them, of whom each OWES the next, the last one it, something.");
        LeftUndoes x = six();
        x.owe(0, 1, 1);
        dueAll("one LOAN is no RING", all(x.ring(0), x.ring(1)), NONE, NONE);
        x.owe(1, 0, 1);
        dueAll("two, by 1 each", all(x.ring(0), x.ring(1), x.ring(2)), 2, 2, NONE);
        x.owe(1, 0, 0);
        due("a LOAN of 0 is nothing", x.ring(0), NONE);
        for (int many = 3; many <= 6; many++) {
            LeftUndoes y = six();
            for (int p = 0; p < many; p++) y.owe(p, (p + 1) % many, 99);
            int length = many;
            dueAll("all on a ring of " + many, each(0, many - 1, y::ring), each(1, many, p -> length));
            if (many < 6) due("who isn't on it", y.ring(5), NONE);
            // the other way round is none of its own
            y.owe(0, many - 1, 1);
            due("a shorter one", y.ring(0), 2);
            due("for who isn't on that the long one", y.ring(1), many);
        }
        LeftUndoes z = six();
        z.owe(0, 1, 1);
        z.owe(1, 2, 1);
        z.owe(2, 1, 1);
        dueAll("who comes to a RING isn't on it", all(z.ring(0), z.ring(1), z.ring(2)), NONE, 2, 2);
    }

    private static LeftUndoes owing(int... fromToWhat) {
        LeftUndoes x = six();
        for (int k = 0; k + 2 < fromToWhat.length; k += 3) x.owe(fromToWhat[k], fromToWhat[k + 1], fromToWhat[k + 2]);
        return x;
    }

    private static void ofPayments() {
        terms("PAYMENTS: the fewest payments, each of any size by one to another one, by which all NETS are paid.");
        due("no LOANS", six().payments(), 0);
        due("a ring of like ones", owing(0, 1, 9, 1, 2, 9, 2, 0, 9).payments(), 0);
        due("each other the same", owing(0, 5, 9, 5, 0, 9).payments(), 0);
        due("one to the last", owing(0, 5, 1).payments(), 1);
        due("by way of all", owing(0, 1, 7, 1, 2, 7, 2, 3, 7, 3, 4, 7, 4, 5, 7).payments(), 1);
        due("NETS -1 -2 -4 -8 -16 31", owing(0, 5, 1, 1, 5, 2, 2, 5, 4, 3, 5, 8, 4, 5, 16).payments(), 5);
        due("NETS 0 -2 -4 -8 -16 30", owing(1, 5, 2, 2, 5, 4, 3, 5, 8, 4, 5, 16).payments(), 4);
        due("three pairs", owing(0, 1, 3, 2, 3, 5, 4, 5, 7).payments(), 3);
        due("three pairs that don't owe each other", owing(0, 3, 3, 2, 3, 2, 2, 1, 3, 4, 1, 0, 4, 5, 7).payments(), 3);
        due("two of three, NETS -3 -5 8, -7 -11 18", owing(0, 2, 3, 1, 2, 5, 3, 5, 7, 4, 5, 11).payments(), 4);
        due("a pair and four, NETS -3 3, -1 -10 -20 31", owing(0, 1, 3, 2, 5, 1, 3, 5, 10, 4, 5, 20).payments(), 4);
        due("NETS -99 -99 -99 -99 -99 495", owing(0, 5, 99, 1, 5, 99, 2, 5, 99, 3, 5, 99, 4, 5, 99).payments(), 5);
        due("NETS 1 1 1 -3 0 0", owing(3, 0, 1, 3, 1, 1, 3, 2, 1).payments(), 3);
    }

    private static void owe() {
        promise(22, "What one OWES another one becomes v (0 to 99): what it was. BAD: also one and the same.");
        LeftUndoes x = six();
        dueAll("owe", all(x.owe(0, 5, 0), x.owe(0, 5, 99), x.owe(0, 5, 1), x.owe(5, 0, 2), x.owe(0, 5, 0)), 0, 0, 99, 0, 1);
        dueAll("owes", all(x.owes(0, 5), x.owes(5, 0)), 0, 2);
        int[][] bad = {{0, 1, -1}, {0, 1, 100}, {0, 1, LEAST}, {0, 1, MOST}, {-1, 0, 1}, {4, 0, 1}, {0, -1, 1}, {0, 4, 1}, {LEAST, 0, 1},
            {0, MOST, 1}, {0, 0, 1}, {3, 3, 0}, {5, 5, 1}, {-1, -1, 1}};
        for (int[] b : bad) {
            refused("owe" + java.util.Arrays.toString(b), Worlds::rich, o -> o.owe(b[0], b[1], b[2]), BAD);
        }
        refused("owe(0, 6, 1) of six", Worlds::six, o -> o.owe(0, 6, 1), BAD);
        refused("owe(6, 0, 1) of six", Worlds::six, o -> o.owe(6, 0, 1), BAD);
        due("owe(4, 5, 1) of six", six().owe(4, 5, 1), 0);
    }

    private static void owes() {
        promise(23, "What one OWES another one. BAD likewise.");
        LeftUndoes x = rich();
        dueAll("owes", all(x.owes(0, 1), x.owes(1, 0), x.owes(3, 0), x.owes(0, 3)), 5, 0, 99, 0);
        int[][] bad = {{-1, 0}, {4, 0}, {0, -1}, {0, 4}, {0, 0}, {3, 3}, {6, 6}, {LEAST, 0}, {0, MOST}};
        for (int[] b : bad) refused("owes" + java.util.Arrays.toString(b), Worlds::rich, o -> o.owes(b[0], b[1]), BAD);
    }

    private static void net() {
        promise(24, "NET of one, and 10000. BAD.");
        due("net, nothing owed", six().net(5), 10000);
        dueAll("net", each(0, 3, rich()::net), 10000 + 1 + 99 - 5, 10000 + 5 - 7, 10000 + 7 - 1, 10000 - 99);
        for (int p : new int[] {-1, 4, 6, LEAST, MOST}) refused("net(" + p + ")", Worlds::rich, o -> o.net(p), BAD);
        refused("net(6) of six", Worlds::six, o -> o.net(6), BAD);
    }

    private static void ring() {
        promise(25, "RING: how many. BAD; NONE.");
        dueAll("ring", each(0, 3, rich()::ring), 3, 3, 3, NONE);
        for (int p : new int[] {-1, 4, 6, LEAST, MOST}) refused("ring(" + p + ")", Worlds::rich, o -> o.ring(p), BAD);
        refused("ring(6) of six", Worlds::six, o -> o.ring(6), BAD);
        refused("ring(3), none", Worlds::rich, o -> o.ring(3), NONE);
        refused("ring(0) of nobody", LeftUndoes::new, o -> o.ring(0), BAD);
        due("ring(0) of one", single().ring(0), NONE);
    }

    private static void payments() {
        promise(26, "PAYMENTS.");
        due("of nobody", new LeftUndoes().payments(), 0);
        due("of one", single().payments(), 0);
        // NETS 95 -2 6 -99
        due("of four", rich().payments(), 3);
        LeftUndoes x = people(1, 1, 1, 1, 1, 1);
        x.owe(1, 0, 99);
        due("of two", x.payments(), 1);
    }
}
