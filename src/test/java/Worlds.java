/** The objects that the tests of sentences ask again and again. */
class Worlds extends Bounds {
    /** All of YEARS 0 to n go by without anything being undone. */
    static LeftUndoes spared(LeftUndoes x, int n) {
        told(x, "hand spare;");
        years(x, n);
        x.rules();
        return x;
    }

    /** A forger whose DEED of YEAR 0 weighs 3, is DUE in YEAR 2 and undone then. */
    static LeftUndoes single() {
        LeftUndoes x = people(2, 1, 9);
        x.deed(0, 0, 3, -1);
        return x;
    }

    /** A slow one, too weak for its DEED of YEAR 0, WEIGHT 5: DUE in YEAR 3, it stands for good. */
    static LeftUndoes weak() {
        LeftUndoes x = people(4, 1, 3);
        x.deed(0, 0, 5, -1);
        return x;
    }

    static LeftUndoes six() {
        return people(1, 1, 1, 2, 2, 2, 3, 3, 3, 4, 4, 4, 5, 5, 5, 1, 9, 9);
    }

    static LeftUndoes tenDeeds() {
        LeftUndoes x = people(2, 1, 9, 2, 9, 9);
        for (int d = 0; d < 10; d++) x.deed(1, d % 3, d % 9 + 1, d - 1);
        return x;
    }

    static LeftUndoes sixReports() {
        LeftUndoes x = new LeftUndoes();
        for (int r = 0; r < 6; r++) x.report(r + 1, r, 31 - r, 1);
        return x;
    }

    static LeftUndoes over() {
        return years(single(), 12);
    }

    /** There is something of everything: DEEDS of all five states in YEAR 3, and another YEAR that is kept. */
    static LeftUndoes rich() {
        LeftUndoes x = people(1, 2, 9, 2, 1, 9, 4, 1, 9, 5, 1, 9);
        x.deed(1, 0, 3, -1);
        x.deed(0, 1, 2, 0);
        x.deed(3, 0, 4, -1);
        x.deed(2, 1, 5, 2);
        x.deed(0, 0, 1, 3);
        x.deed(1, 5, 1, 2);
        x.deed(2, 2, 1, 0);
        x.ends(14);
        told(x, "heir if year=12 spare; forger if year>4 early 1;");
        x.owe(0, 1, 5);
        x.owe(1, 2, 7);
        x.owe(2, 0, 1);
        x.report(3, 0, 4, 1);
        x.report(9, 2, 20, 0);
        x.seed(77);
        years(x, 1);
        x.keep();
        years(x, 2);
        x.change(0, 1, 3);
        x.owe(3, 0, 99);
        x.report(2, 1, 9, 1);
        x.seed(-5);
        feed(x, "hand spare;");
        x.prove(2);
        x.alterRow(1, 1, 77);
        bytes(x, 0, 1, 0, 9, 2, -1);
        x.sheet(1, 3, 2);
        x.write(1, 1, -9);
        x.sheet(3, 4, 3);
        x.write(3, 0, 1);
        x.shelf(0, 0, 1);
        x.shelf(1, 1, 1);
        x.shelf(3, 0, 3);
        x.act(3, 3, 10);
        return x;
    }
}
