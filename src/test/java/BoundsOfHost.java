/** THINGS that act, SHEETS and SHELVES of Terms, section 3; promises 45 to 54. */
final class BoundsOfHost extends Worlds {
    static void run() {
        ofActs();
        ofBodies();
        ofTheTrace();
        ofSheets();
        ofShelves();
        sheet();
        write();
        item();
        goAll();
        wouldBe();
        shelf();
        taken();
        act();
        trace();
        many();
    }

    private static final int GIVES = 0, TAKES = 1, SPLITS = 2, SWEARS = 3;

    /** On SHELF 0 one of a KIND, with a number and a GRACE. */
    private static LeftUndoes thing(int kind, int number, int grace) {
        LeftUndoes x = new LeftUndoes();
        for (int p = 0; p < number; p++) x.person(1, 1, 1);
        x.person(kind, grace, 1);
        x.shelf(0, 0, number);
        return x;
    }

    private static void acts(LeftUndoes x, int act, int with, int want, int... bodies) {
        due("act " + act + " with " + with, x.act(0, act, with), want);
        dueAll("bodies of act " + act, traced(x), bodies);
    }

    private static void ofActs() {
        terms("ACTS of a thing by its KIND, with a number x (ints that wrap): 0 gives, 1 takes, 2 splits, 3 swears.");
        LeftUndoes forger = thing(2, 5, 9);
        acts(forger, GIVES, LEAST, MOST - 8, 10);
        acts(forger, GIVES, MOST, MOST - 9, 10);
        acts(forger, TAKES, LEAST, 18, 30, 11, 10);
        acts(forger, TAKES, MOST, 20, 30, 11, 10);
        // 2^30 + 9 less 9, twice: the least int, and 0 less it is itself
        acts(forger, TAKES, (1 << 30) + 9, LEAST, 30, 11, 10);
        acts(forger, SWEARS, (1 << 30) + 9, LEAST + 5, 13, 30, 11, 10);
        acts(thing(1, 5, 1), GIVES, MOST, LEAST + 3, 20, 10);
        acts(thing(3, 0, 1), GIVES, (1 << 30) + 1, -(1 << 30), 50, 10);
        acts(thing(3, 0, 2), SWEARS, LEAST, 12, 51, 13, 30, 11, 50, 10, 12);
        // x + 5 wraps to the least int and 3; it leaves below 0
        acts(thing(4, 0, 7), SPLITS, MOST - 1, (LEAST + 3) % 7, 40, 12);
        acts(thing(4, 2, 1), SPLITS, MOST - 4, 0, 40, 12);
        acts(thing(2, 5, 4), SPLITS, LEAST, 0, 12);
    }

    private static void ofBodies() {
        terms("One of PEOPLE is held as a thing of its KIND; n: its number, a: its GRACE. BODIES, each with its number:");
        LeftUndoes x = thing(1, 3, 2);
        acts(x, GIVES, 10, 11, 20, 10);
        x.change(3, 1, 9);
        acts(x, GIVES, 10, 4, 20, 10);
        x.remake(3, 2);
        acts(x, GIVES, 10, 1, 10);
        terms("hand: 10 gives: x - a. 11 takes: gives(x) * 2. 12 splits: what x leaves by (a - n), below 0 if x is "
            + "(-15 if these are the same; that is all that act() answers then). 13 swears: takes(x) ^ n.");
        LeftUndoes slow = thing(4, 3, 9), forger = thing(2, 1, 6), under = thing(2, 5, 2);
        acts(slow, GIVES, 0, -9, 10);
        acts(slow, TAKES, 10, 2, 11, 10);
        acts(slow, SWEARS, 12, 6 ^ 3, 13, 11, 10);
        // by 5, by -3
        dueAll("splits by 5", each(-6, 6, v -> forger.act(0, SPLITS, v)), -1, 0, -4, -3, -2, -1, 0, 1, 2, 3, 4, 0, 1);
        dueAll("splits by -3", each(-4, 4, v -> under.act(0, SPLITS, v)), -1, 0, -2, -1, 0, 1, 2, 0, 1);
        for (int n = 1; n <= 5; n++) {
            acts(thing(2, n, n), SPLITS, 7, PARTED, 12);
            acts(thing(2, n, n + 1), SPLITS, 7, 0, 12);
            acts(thing(2, n, n + 2), SPLITS, 7, 1, 12);
        }
        acts(thing(2, 5, 4), SPLITS, 7, 0, 12);
        LeftUndoes same = thing(3, 2, 2);
        acts(same, SPLITS, 0, PARTED, 12);
        acts(same, GIVES, 5, 9, 50, 10);
        same.change(2, 1, 4);
        acts(same, SPLITS, 5, 1, 12);
        terms("clasped: 20 gives: super.gives(x) + n. forger: 30 takes: 0 - super.takes(x). slow: 40 splits: super.splits(x + 5).");
        acts(thing(1, 5, 9), GIVES, 10, 6, 20, 10);
        acts(thing(1, 5, 9), TAKES, 10, 12, 11, 20, 10);
        acts(thing(1, 5, 9), SPLITS, -7, -3, 12);
        acts(thing(1, 5, 9), SWEARS, 10, 12 ^ 5, 13, 11, 20, 10);
        acts(thing(2, 5, 9), GIVES, 10, 1, 10);
        acts(thing(2, 5, 9), TAKES, 10, -2, 30, 11, 10);
        acts(thing(2, 5, 9), SWEARS, 10, -2 ^ 5, 13, 30, 11, 10);
        acts(thing(4, 5, 9), SPLITS, 10, 3, 40, 12);
        acts(thing(4, 5, 9), SPLITS, -5, 0, 40, 12);
        acts(thing(4, 5, 9), SPLITS, -6, -1, 40, 12);
        acts(thing(4, 5, 5), SPLITS, 0, PARTED, 40, 12);
        terms("twin: 50 gives: super.gives(x) * 3. 51 swears: super.swears(x) - splits(a).");
        acts(thing(3, 5, 9), GIVES, 10, 3, 50, 10);
        acts(thing(3, 5, 9), TAKES, 10, -6, 30, 11, 50, 10);
        acts(thing(3, 5, 9), SPLITS, 10, 2, 12);
        // -6 ^ 5 is -1; 9 by 4 leaves 1
        acts(thing(3, 5, 9), SWEARS, 10, -2, 51, 13, 30, 11, 50, 10, 12);
        acts(thing(3, 5, 5), SWEARS, 10, PARTED, 51, 13, 30, 11, 50, 10, 12);
        terms("heir: 60 takes: super.takes(x) ^ a. 61 splits: super.splits(x) + gives(n).");
        acts(thing(5, 5, 9), GIVES, 10, 1, 10);
        acts(thing(5, 5, 9), TAKES, 10, 2 ^ 9, 60, 11, 10);
        // 10 and 3 have a bit in common
        acts(thing(5, 5, 3), TAKES, 8, 9, 60, 11, 10);
        // 10 + 5 by 4 leaves 3; 5 - 9
        acts(thing(5, 5, 9), SPLITS, 10, -1, 61, 40, 12, 10);
        acts(thing(5, 5, 9), SWEARS, 10, 2 ^ 9 ^ 5, 13, 60, 11, 10);
        acts(thing(5, 4, 4), SPLITS, 10, PARTED, 61, 40, 12);
    }

    private static void ofTheTrace() {
        terms("THE TRACE: numbers of the bodies that ran in the latest act(), as they began (left first); the first 30 are kept.");
        LeftUndoes x = thing(3, 0, 2);
        dueAll("none at first", traced(x));
        x.act(0, SWEARS, 1);
        dueAll("seven, left first", traced(x), 51, 13, 30, 11, 50, 10, 12);
        x.act(0, GIVES, 1);
        dueAll("of the latest alone", traced(x), 50, 10);
        due("none behind these", x.trace(2), NONE);
        LeftUndoes parted = thing(5, 4, 4);
        parted.act(0, SPLITS, 1);
        dueAll("those that began, though parted by 0", traced(parted), 61, 40, 12);
    }

    private static void ofSheets() {
        terms("SHEETS 0 to 3 are rows of bytes (sort 0), shorts (1), ints (2), longs (3) or booleans (4), 40 at most, or missing (at first).");
        LeftUndoes x = new LeftUndoes();
        for (int s = 0; s < 4; s++) {
            due("missing at first", x.item(s, 0, 0), NOTHING);
            for (int sort = 0; sort < 5; sort++) {
                dueAll("a row of 40", all(x.sheet(s, sort, 40), x.item(s, sort, 39), x.item(s, sort, 40)), 1, 0, OUTSIDE);
                dueAll("a row of 41", all(x.sheet(s, sort, 41), x.item(s, sort, 39)), BAD, 0);
                dueAll("a row of 0", all(x.sheet(s, sort, 0), x.item(s, sort, 0)), 1, OUTSIDE);
            }
            dueAll("missing", all(x.sheet(s, -1, 0), x.item(s, 4, 0)), 1, NOTHING);
        }
        dueAll("SHEETS -1, 4", all(x.sheet(-1, 0, 1), x.sheet(4, 0, 1), x.item(-1, 0, 0), x.item(4, 0, 0)), BAD, BAD, BAD, BAD);
        x.sheet(0, 2, 2);
        x.sheet(3, 2, 2);
        x.write(3, 1, 9);
        dueAll("each SHEET is its own", all(x.item(0, 2, 1), x.item(3, 2, 1)), 0, 9);
    }

    private static void ofShelves() {
        terms("SHELVES 0 to 3 hold one of PEOPLE (by its number; nothing, if there is no such one at the time), a SHEET's row, "
            + "or nothing (at first).");
        LeftUndoes x = people(2, 3, 9);
        for (int s = 0; s < 4; s++) {
            dueAll("nothing at first", all(x.taken(s, 0), x.taken(s, 14), x.act(s, 0, 5)), NOTHING, NOTHING, 0);
            dueAll("one of PEOPLE", all(x.shelf(s, 0, 0), x.taken(s, 2), x.act(s, 0, 5)), 1, 0, 2);
        }
        dueAll("SHELVES -1, 4", all(x.shelf(-1, 0, 0), x.shelf(4, 0, 0), x.taken(-1, 0), x.taken(4, 0), x.act(-1, 0, 5), x.act(4, 0, 5)),
            BAD, BAD, BAD, BAD, 0, 0);
        x.keep();
        x.person(4, 1, 1);
        x.shelf(0, 0, 1);
        dueAll("the second one", all(x.taken(0, 4), x.act(0, 0, 5)), 1, 4);
        x.again();
        dueAll("there is no such one now", all(x.taken(0, 4), x.taken(0, 10), x.act(0, 0, 5), x.many(6)), NOTHING, NOTHING, 0, 0);
        dueAll("the first one yet", all(x.taken(1, 2), x.act(1, 0, 5)), 0, 2);
        x.person(5, 9, 1);
        dueAll("there is such a one again", all(x.taken(0, 5), x.act(0, 0, 5)), 1, -4);
        x.remake(1, 3);
        dueAll("by its number: as it is now", all(x.taken(0, 3), x.taken(0, 5), x.act(0, 0, 5)), 1, OTHER, -12);
        x.sheet(2, 1, 7);
        x.shelf(2, 1, 2);
        dueAll("a SHEET's row", all(x.taken(2, 11), x.taken(2, 0), x.act(2, 0, 5)), 7, OTHER, 0);
        dueAll("nothing again", all(x.shelf(2, 2, 0), x.taken(2, 11), x.taken(3, 2)), 1, NOTHING, 0);
    }

    private static void sheet() {
        promise(45, "A SHEET becomes a row of n of a sort, all 0, or missing (sort -1; n counts nothing then): 1. BAD: no such SHEET, sort, "
            + "n above 40; -14.");
        LeftUndoes x = new LeftUndoes();
        for (int n : new int[] {0, 1, 39, 40}) {
            for (int sort = 0; sort < 5; sort++) {
                due("sheet", x.sheet(3, sort, n), 1);
                due("the last of " + n, x.item(3, sort, n - 1), n == 0 ? OUTSIDE : 0);
                due("behind the last of " + n, x.item(3, sort, n), OUTSIDE);
                for (int i = 0; i < n; i += 13) x.write(3, i, 1);
            }
        }
        x.sheet(3, 4, 40);
        int sum = 0;
        for (int i = 0; i < 40; i++) sum += x.item(3, 4, i);
        due("all 0", sum, 0);
        LeftUndoes y = bytes(new LeftUndoes(), 0, 1, 1, 1, 1);
        dueAll("the same again: all 0", all(y.sheet(0, 0, 4), y.item(0, 0, 0), y.item(0, 0, 3)), 1, 0, 0);
        for (int n : new int[] {-1, 0, 40, 41, LEAST, MOST}) {
            dueAll("missing, n " + n, all(y.sheet(0, 0, 1), y.sheet(0, -1, n), y.item(0, 0, 0)), 1, 1, NOTHING);
        }
        int[][] bad = {{-1, 0, 1}, {4, 0, 1}, {LEAST, 0, 1}, {MOST, 0, 1}, {0, -2, 1}, {0, 5, 1}, {0, LEAST, 1}, {0, MOST, 1}, {0, 0, 41},
            {0, 4, 41}, {0, 0, MOST}, {4, 0, -1}, {0, 5, -1}, {0, -2, -1}, {4, -1, 0}, {-1, -1, 0}};
        for (int[] b : bad) refused("sheet" + java.util.Arrays.toString(b), Worlds::rich, o -> o.sheet(b[0], b[1], b[2]), BAD);
        for (int n : new int[] {-1, -2, LEAST}) {
            for (int sort = 0; sort < 5; sort++) {
                int as = sort;
                refused("sheet of " + n, Worlds::rich, o -> o.sheet(0, as, n), BELOW);
            }
        }
    }

    private static void writes(int sort, int v, int want) {
        LeftUndoes x = new LeftUndoes();
        x.sheet(0, sort, 1);
        due("write " + v + " to sort " + sort, x.write(0, 0, v), 1);
        due("item", x.item(0, sort, 0), want);
    }

    private static void write() {
        promise(46, "Item i becomes v, narrowed to its sort (booleans: whether it is not 0): 1. BAD: no such SHEET; -11; -12.");
        int[][] bytes = {{127, 127}, {128, -128}, {-128, -128}, {-129, 127}, {255, -1}, {256, 0}, {-256, 0}, {-1, -1}, {LEAST, 0}, {MOST, -1}};
        for (int[] b : bytes) writes(0, b[0], b[1]);
        int[][] shorts = {{32767, 32767}, {32768, -32768}, {-32768, -32768}, {-32769, 32767}, {65535, -1}, {65536, 0}, {128, 128}, {LEAST, 0},
            {MOST, -1}};
        for (int[] b : shorts) writes(1, b[0], b[1]);
        for (int v : new int[] {0, 1, -1, 32768, 65536, LEAST, MOST}) {
            writes(2, v, v);
            writes(3, v, v);
            writes(4, v, v == 0 ? 0 : 1);
        }
        writes(4, 256, 1);
        writes(4, 2, 1);
        LeftUndoes x = new LeftUndoes();
        x.sheet(3, 2, 40);
        dueAll("the first and the last", all(x.write(3, 0, 5), x.write(3, 39, 6), x.item(3, 2, 0), x.item(3, 2, 39), x.item(3, 2, 1)), 1, 1, 5, 6, 0);
        for (int s : new int[] {-1, 4, LEAST, MOST}) refused("write, SHEET " + s, Worlds::rich, o -> o.write(s, 0, 1), BAD);
        for (int i : new int[] {0, -1, 40, LEAST, MOST}) refused("write, missing", Worlds::rich, o -> o.write(2, i, 1), NOTHING);
        for (int i : new int[] {-1, 5, 40, LEAST, MOST}) refused("write, place " + i, Worlds::rich, o -> o.write(0, i, 1), OUTSIDE);
        x.sheet(3, 2, 0);
        due("write to an empty row", x.write(3, 0, 1), OUTSIDE);
    }

    private static void item() {
        promise(47, "Item i, taken for a sort (0 to 4; of longs the lowest 32 bits; of booleans 1, 0). BAD: no such SHEET, sort; -13; -11; -12. "
            + "(An item may be as low as these, too.)");
        LeftUndoes x = new LeftUndoes();
        int[] wants = {-13, -13, -13, -13, 1};
        for (int sort = 0; sort < 5; sort++) {
            x.sheet(sort % 4, sort, 3);
            x.write(sort % 4, 2, -13);
            dueAll("items", all(x.item(sort % 4, sort, 0), x.item(sort % 4, sort, 2)), 0, wants[sort]);
            for (int as = 0; as < 5; as++) {
                for (int i : new int[] {0, 3, -1}) {
                    due("taken for sort " + as, x.item(sort % 4, as, i), as != sort ? OTHER : i == 0 ? 0 : OUTSIDE);
                }
            }
        }
        int[][] bad = {{-1, 0, 0}, {4, 0, 0}, {LEAST, 0, 0}, {MOST, 0, 0}, {0, -1, 0}, {0, 5, 0}, {0, LEAST, 0}, {0, MOST, 0}, {2, 5, 0}, {2, -1, 0}};
        for (int[] b : bad) refused("item" + java.util.Arrays.toString(b), Worlds::rich, o -> o.item(b[0], b[1], b[2]), BAD);
        for (int sort = 1; sort < 5; sort++) {
            int as = sort;
            refused("another sort", Worlds::rich, o -> o.item(0, as, 0), OTHER);
            refused("another sort ahead of a place outside", Worlds::rich, o -> o.item(0, as, 5), OTHER);
        }
        for (int sort = 0; sort < 5; sort++) {
            int as = sort;
            refused("missing, ahead of a place outside", Worlds::rich, o -> o.item(2, as, -1), NOTHING);
        }
        for (int i : new int[] {-1, 5, 40, LEAST, MOST}) refused("place " + i, Worlds::rich, o -> o.item(0, 0, i), OUTSIDE);
    }

    private static void goAll() {
        promise(48, "n (0 to 20) items of a SHEET taken for bytes, from item i on, are ACTS, each followed by a YEAR "
            + "(what is none, or when it is OVER, is left out): what these YEARS were WORTH together. BAD: no such SHEET, n; -13; -11; "
            + "-12: what stood ahead was done.");
        LeftUndoes x = bytes(weak(), 0, 0, 1, 2, -1, 127, -128, 0);
        due("0 and 1 are ACTS of one, the others are left out", x.goAll(0, 0, 7), 15);
        dueAll("three YEARS", states(x), 3, 12, 15, 0);
        due("none", x.goAll(0, 0, 0), 0);
        due("none, wherever", x.goAll(0, 99, 0), 0);
        due("the last item", x.goAll(0, 6, 1), 5);
        due("two that are none", x.goAll(0, 2, 2), 0);
        dueAll("four YEARS", states(x), 4, 12, 20, 0);
        LeftUndoes y = weak();
        y.ends(2);
        bytes(y, 0, 0, 0, 0, 0);
        due("OVER behind two", y.goAll(0, 0, 4), 10);
        dueAll("OVER", states(y), 2, 2, 10, 1);
        due("OVER", y.goAll(0, 0, 4), 0);
        due("OVER, and a place outside", y.goAll(0, 3, 2), OUTSIDE);
        LeftUndoes z = weak();
        z.ends(16);
        z.sheet(0, 0, 40);
        z.change(0, 1, 9);
        due("20 items, 16 YEARS", z.goAll(0, 20, 20), 60);
        dueAll("all YEARS", states(z), 16, 16, 60, 1);
        LeftUndoes w = bytes(weak(), 0, 0, 0, 0);
        due("the last and one outside", w.goAll(0, 2, 2), OUTSIDE);
        dueAll("what stood ahead was done", states(w), 1, 12, 5, 0);
        due("all three and one outside", w.goAll(0, 0, 4), OUTSIDE);
        dueAll("what stood ahead was done", states(w), 4, 12, 20, 0);
        LeftUndoes held = bytes(single(), 0, 0, 0, 1, 0);
        due("who is HELD", held.goAll(0, 0, 4), 9);
        for (int i : new int[] {-1, 5, 40, LEAST, MOST, MOST - 18}) {
            refused("the first is outside", Worlds::rich, o -> o.goAll(0, i, 20), OUTSIDE);
        }
        refusedAlike("goAll", (o, sheet, i, n) -> o.goAll(sheet, i, n));
    }

    private interface Going { int of(LeftUndoes x, int sheet, int i, int n); }

    private static void refusedAlike(String name, Going go) {
        for (int s : new int[] {-1, 4, LEAST, MOST}) refused(name + ", SHEET " + s, Worlds::rich, o -> go.of(o, s, 0, 1), BAD);
        for (int n : new int[] {-1, 21, LEAST, MOST}) {
            refused(name + ", n " + n, Worlds::rich, o -> go.of(o, 0, 0, n), BAD);
            refused(name + ", n " + n + " ahead of another sort", Worlds::rich, o -> go.of(o, 1, 0, n), BAD);
            refused(name + ", n " + n + " ahead of missing", Worlds::rich, o -> go.of(o, 2, 0, n), BAD);
        }
        for (int i : new int[] {0, -1, 40, LEAST, MOST}) {
            refused(name + ", longs", Worlds::rich, o -> go.of(o, 1, i, 1), OTHER);
            refused(name + ", booleans", Worlds::rich, o -> go.of(o, 3, i, 1), OTHER);
            refused(name + ", missing", Worlds::rich, o -> go.of(o, 2, i, 1), NOTHING);
        }
        refused(name + ", none of longs", Worlds::rich, o -> go.of(o, 1, 0, 0), OTHER);
        refused(name + ", none of a missing one", Worlds::rich, o -> go.of(o, 2, 0, 0), NOTHING);
        for (int sort : new int[] {1, 2, 4}) {
            LeftUndoes x = new LeftUndoes();
            x.sheet(0, sort, 9);
            due(name + ", sort " + sort, go.of(x, 0, 0, 1), OTHER);
        }
    }

    private static void wouldBe() {
        promise(49, "n (0 to 20) items likewise: what they would be WORTH. BAD: no such SHEET, n; -13; -11; then, by items, -12; "
            + "STATE: one is no ACT, or it would be OVER ahead of it.");
        LeftUndoes x = bytes(single(), 0, 0, 0, 1, 2, 0, -1);
        dueAll("wouldBe of 0 to 3", each(0, 3, n -> x.wouldBe(0, 0, n)), 0, 3, 6, 9);
        dueAll("nothing was done", states(x), 0, 12, 0, 0);
        due("none, wherever", x.wouldBe(0, -99, 0), 0);
        dueAll("what is no ACT", all(x.wouldBe(0, 0, 4), x.wouldBe(0, 3, 1), x.wouldBe(0, 5, 1), x.wouldBe(0, 4, 2)), STATE, STATE, STATE, STATE);
        due("the last ACT is how many PEOPLE there are", x.wouldBe(0, 2, 1), 3);
        dueAll("no ACT ahead of a place outside", all(x.wouldBe(0, 5, 2), x.wouldBe(0, 3, 20)), STATE, STATE);
        dueAll("a place outside", all(x.wouldBe(0, 6, 1), x.wouldBe(0, -1, 20), x.wouldBe(0, MOST, 20), x.wouldBe(0, LEAST, 1)),
            OUTSIDE, OUTSIDE, OUTSIDE, OUTSIDE);
        LeftUndoes y = bytes(weak(), 0, 0, 0, 0);
        due("a place outside behind ACTS", y.wouldBe(0, 1, 3), OUTSIDE);
        y.ends(2);
        dueAll("OVER ahead of the third", each(1, 3, n -> y.wouldBe(0, 0, n)), 5, 10, STATE);
        due("OVER ahead of a place outside that comes later", y.wouldBe(0, 0, 4), STATE);
        years(y, 2);
        dueAll("OVER", all(y.wouldBe(0, 0, 0), y.wouldBe(0, 0, 1)), 0, STATE);
        dueAll("OVER, and a place outside", all(y.wouldBe(0, 3, 1), y.wouldBe(0, -1, 1)), OUTSIDE, OUTSIDE);
        LeftUndoes z = weak();
        z.ends(16);
        z.sheet(0, 0, 40);
        dueAll("16 items, and 17", all(z.wouldBe(0, 24, 16), z.wouldBe(0, 20, 17), z.wouldBe(0, 20, 20)), 20, STATE, STATE);
        refused("no ACT", Worlds::rich, o -> o.wouldBe(0, 0, 3), STATE);
        refused("a place outside", Worlds::rich, o -> o.wouldBe(0, 5, 1), OUTSIDE);
        refusedAlike("wouldBe", (o, sheet, i, n) -> o.wouldBe(sheet, i, n));
    }

    private static void shelf() {
        promise(50, "A SHELF holds one of PEOPLE (what 0, its number n), the row of SHEET n (1; nothing, if missing), nothing (2): 1. "
            + "BAD: no such SHELF, what, thing.");
        LeftUndoes x = six();
        dueAll("the first, the last", all(x.shelf(0, 0, 0), x.taken(0, 1), x.shelf(3, 0, 5), x.taken(3, 1)), 1, 0, 1, 5);
        x.sheet(0, 2, 0);
        x.sheet(3, 4, 40);
        dueAll("rows", all(x.shelf(0, 1, 0), x.taken(0, 12), x.shelf(3, 1, 3), x.taken(3, 14)), 1, 0, 1, 40);
        dueAll("a missing one", all(x.shelf(0, 1, 1), x.taken(0, 12), x.taken(0, 0)), 1, NOTHING, NOTHING);
        for (int n : new int[] {-1, 0, 6, LEAST, MOST}) {
            dueAll("nothing, n " + n, all(x.shelf(3, 0, 0), x.shelf(3, 2, n), x.taken(3, 0)), 1, 1, NOTHING);
        }
        int[][] bad = {{-1, 0, 0}, {4, 0, 0}, {LEAST, 2, 0}, {MOST, 2, 0}, {0, -1, 0}, {0, 3, 0}, {0, LEAST, 0}, {0, MOST, 0}, {0, 0, -1},
            {0, 0, 4}, {0, 0, LEAST}, {0, 0, MOST}, {0, 1, -1}, {0, 1, 4}, {0, 1, LEAST}, {0, 1, MOST}, {4, 1, 0}, {-1, 2, 0}};
        for (int[] b : bad) refused("shelf" + java.util.Arrays.toString(b), Worlds::rich, o -> o.shelf(b[0], b[1], b[2]), BAD);
        refused("shelf, nobody", LeftUndoes::new, o -> o.shelf(0, 0, 0), BAD);
    }

    private static void taken() {
        promise(51, "What a SHELF holds taken for a thing of KIND as (0 to 5, or one under it): its number; for a row of sort as - 10 "
            + "(as 10 to 14): how many items. BAD: no such SHELF, as; -13; -11.");
        LeftUndoes x = people(1, 1, 1, 2, 1, 1, 3, 1, 1, 4, 1, 1, 5, 1, 1);
        int[][] under = {{0, 0, OTHER, OTHER, OTHER, OTHER}, {1, OTHER, 1, OTHER, OTHER, OTHER}, {2, OTHER, 2, 2, OTHER, OTHER},
            {3, OTHER, OTHER, OTHER, 3, OTHER}, {4, OTHER, OTHER, OTHER, 4, 4}};
        for (int p = 0; p < 5; p++) {
            x.shelf(p % 4, 0, p);
            int s = p % 4;
            dueAll("a thing", each(0, 5, as -> x.taken(s, as)), under[p]);
            dueAll("a thing for a row", each(10, 14, as -> x.taken(s, as)), OTHER, OTHER, OTHER, OTHER, OTHER);
        }
        for (int sort = 0; sort < 5; sort++) {
            int of = sort, n = sort * 10;
            x.sheet(0, sort, n);
            x.shelf(0, 1, 0);
            dueAll("a row of sort " + sort, each(10, 14, as -> x.taken(0, as)), each(0, 4, k -> k == of ? n : OTHER));
            dueAll("a row for a thing", each(0, 5, as -> x.taken(0, as)), OTHER, OTHER, OTHER, OTHER, OTHER, OTHER);
        }
        x.shelf(0, 2, 0);
        dueAll("nothing for a thing", each(0, 5, as -> x.taken(0, as)), each(0, 5, k -> NOTHING));
        dueAll("nothing for a row", each(10, 14, as -> x.taken(0, as)), each(0, 4, k -> NOTHING));
        for (int s : new int[] {-1, 4, LEAST, MOST}) refused("taken, SHELF " + s, Worlds::rich, o -> o.taken(s, 0), BAD);
        for (int as : new int[] {-1, 6, 7, 8, 9, 15, 16, LEAST, MOST, -10, -3}) {
            for (int s = 0; s < 4; s++) {
                int of = s;
                refused("taken as " + as, Worlds::rich, o -> o.taken(of, as), BAD);
            }
        }
        refused("another KIND", Worlds::rich, o -> o.taken(0, 3), OTHER);
        refused("another sort", Worlds::rich, o -> o.taken(1, 12), OTHER);
        refused("nothing", Worlds::rich, o -> o.taken(2, 13), NOTHING);
    }

    private static void act() {
        promise(52, "An ACT (0 to 3) of the thing on a SHELF, with x. 0, and no TRACE then: no such SHELF, act, nothing, a row.");
        LeftUndoes x = rich();
        int[][] none = {{-1, 0}, {4, 0}, {LEAST, 0}, {MOST, 0}, {0, -1}, {0, 4}, {0, LEAST}, {0, MOST}, {1, 0}, {1, 3}, {2, 0}, {2, 3}, {4, 4}};
        for (int[] no : none) {
            x.act(0, 3, 10);
            due("THE TRACE of an act", x.many(6), 4);
            dueAll("act" + java.util.Arrays.toString(no), all(x.act(no[0], no[1], 10), x.many(6), x.trace(0)), 0, 0, NONE);
        }
        LeftUndoes y = thing(2, 1, 4);
        dueAll("ACTS 0 to 3", each(0, 3, a -> y.act(0, a, 11)), 7, -14, 2, -14 ^ 1);
        LeftUndoes parted = thing(4, 5, 5);
        dueAll("parted by 0 is an answer with a TRACE", all(parted.act(0, 2, 1), parted.many(6)), PARTED, 2);
        changesNothing("act() but THE TRACE", () -> { LeftUndoes o = rich(); o.act(3, 3, 10); return o; }, o -> o.act(0, 1, 5) + o.act(3, 3, 10));
    }

    private static void trace() {
        promise(53, "THE TRACE's i-th body. NONE.");
        LeftUndoes x = thing(3, 0, 2);
        x.act(0, 3, 1);
        dueAll("trace(-1) to trace(8)", each(-1, 8, x::trace), NONE, 51, 13, 30, 11, 50, 10, 12, NONE, NONE);
        for (int i : new int[] {-1, 5, 29, 30, 31, LEAST, MOST}) refused("trace(" + i + ")", Worlds::rich, o -> o.trace(i), NONE);
        due("none at first", new LeftUndoes().trace(0), NONE);
    }

    private static void many() {
        promise(54, "How many: what = 0 PEOPLE, 1 RULES, 2 DEEDS, 3 REPORTS, 4 ROWS, 5 bytes of THE TAPE, 6 bodies of THE TRACE "
            + "(those kept, 30 at most), 7 LOANS of more than 0. BAD: another what.");
        dueAll("many", each(0, 7, rich()::many), 4, 2, 7, 3, 2, 11, 4, 4);
        dueAll("many of a new one", each(0, 7, new LeftUndoes()::many), 0, 0, 0, 0, 0, 0, 0, 0);
        LeftUndoes x = six();
        for (int p = 0; p < 6; p++) for (int q = 0; q < 6; q++) if (p != q) x.owe(p, q, 1);
        for (int d = 0; d < 10; d++) x.deed(0, 0, 1, -1);
        for (int r = 0; r < 6; r++) x.report(1, 0, 0, 0);
        told(x, "hand spare;".repeat(8));
        feed(x, " ".repeat(200));
        x.prove(4);
        x.shelf(0, 0, 2);
        x.act(0, 3, 1);
        dueAll("many of all", each(0, 7, x::many), 6, 8, 10, 6, 4, 200, 7, 30);
        x.owe(5, 4, 0);
        x.owe(0, 1, 99);
        due("LOANS of more than 0", x.many(7), 29);
        for (int what : new int[] {-1, 8, LEAST, MOST}) refused("many(" + what + ")", Worlds::rich, o -> o.many(what), BAD);
    }
}
