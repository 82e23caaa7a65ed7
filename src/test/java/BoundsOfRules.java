/** Terms, section 2 (THE RULES, a TEXT), and promises 11 and 12. */
final class BoundsOfRules extends Worlds {
    static void run() {
        ofTheTape();
        ofTheText();
        ofKindsAndDos();
        ofConditions();
        ofNumbers();
        ofFacts();
        ofNamesAndBlanks();
        ofBrackets();
        ofFaults();
        feedTold();
        rulesTold();
    }

    private static final String RULE = "hand spare;";

    private static void right(int many, String... texts) {
        for (String text : texts) due("rules() of «" + text + "»", told(new LeftUndoes(), text), many);
    }

    /** Where the FAULT of a text is, a '|' stands. */
    private static void faults(String... texts) {
        for (String text : texts) {
            int at = text.indexOf('|');
            due("rules() of «" + text + "»", told(new LeftUndoes(), text.replace("|", "")), -100 - at);
        }
    }

    private static void ofTheTape() {
        terms("THE RULES are a TEXT.");
        right(1, RULE);
        terms("THE TAPE takes bytes, 200 at most; rules() uses it up.");
        LeftUndoes x = new LeftUndoes();
        due("none at first", x.many(5), 0);
        for (int k = 1; k <= 200; k++) x.feed(32, 1);
        due("200 bytes", x.many(5), 200);
        due("one more", x.feed(32, 1), FULL);
        due("200 blanks tell no RULES", x.rules(), 0);
        due("used up", x.many(5), 0);
        due("there is room again", x.feed(32, 8), 8);
        x.rules();
        feed(x, "x");
        due("a FAULT", x.rules(), -100);
        due("used up by a FAULT, too", x.many(5), 0);
        due("nothing is left of it", x.rules(), 0);
        right(1, RULE + " ".repeat(189), " ".repeat(189) + RULE, " ".repeat(94) + "hand" + " ".repeat(91) + "spare;    ");
        faults(" ".repeat(196) + "hand|", " ".repeat(190) + "hand spare|", RULE + " ".repeat(188) + "|;", "|" + "a".repeat(200),
            "hand early |" + "1".repeat(189), " ".repeat(199) + "|x");
    }

    private static void ofTheText() {
        terms("TEXT: { KIND DO ; | KIND if COND DO ; }, 8 RULES at most.");
        right(0, "", " ", "        ");
        for (int k = 1; k <= 8; k++) right(k, RULE.repeat(k), ("hand if 1=1 spare;").repeat(k));
        right(8, RULE.repeat(8) + "    ");
        faults(RULE.repeat(8) + "|hand spare;", RULE.repeat(8) + "|hand", RULE.repeat(8) + "  |heir if year=1 late 3;", RULE.repeat(8) + "|;",
            RULE.repeat(8) + "|foo", RULE.repeat(8) + "|7", RULE.repeat(8) + "|" + RULE.repeat(7));
    }

    private static void ofKindsAndDos() {
        terms("KIND: hand | clasped | forger | twin | slow | heir.");
        right(1, RULE, "clasped spare;", "forger spare;", "twin spare;", "slow spare;", "heir spare;");
        faults("|left spare;", "|han spare;", "|hands spare;", "|Hand spare;", "|hanD spare;", "|1 spare;", "|if spare;", "|person spare;",
            "|kind spare;", "|clasp spare;", "|forge spare;", "|twins spare;", "|slo spare;", "|hei spare;", "|heirs spare;");
        terms("DO: early N | late N (0 to 99) | spare.");
        right(1, "hand early 0;", "hand early 99;", "hand late 0;", "hand late 99;", "hand early 0099;", "hand late 0000;", "hand late 00;");
        faults("hand early |100;", "hand late |100;", "hand early |0100;", "hand late |9999;", "hand early |00099;", "hand late |00000;",
            "hand early|;", "hand late|;", "hand spare |0;", "hand spare |99;", "hand early |year;", "hand late |-1;", "hand |earl 1;",
            "hand |earlyy 1;", "hand |later 1;", "hand |lat 1;", "hand |spar;", "hand |spared;", "hand |Early 1;", "hand early 1 |1;",
            "hand early 1 |late 1;", "hand early |early 1;", "hand |5;", "hand |none;");
    }

    /** A twin (number 1, GRACE 2, STRENGTH 5) in YEAR 4, whose DEEDS that STAND weigh 7: 0 is its CHOICE, if it isn't spared. */
    private static LeftUndoes inYear4() {
        LeftUndoes x = people(1, 1, 1, 3, 2, 5);
        x.deed(1, 1, 3, -1);
        x.deed(1, 3, 4, -1);
        return years(x, 4);
    }

    /** Whether conditions hold or not for that twin. */
    private static void hold(boolean so, String... conditions) {
        LeftUndoes x = inYear4();
        for (String condition : conditions) {
            due("RULES if " + condition, told(x, "hand if " + condition + " spare;"), 1);
            due("CHOICE if " + condition, x.personOf(1, 5), so ? 10 : 0);
        }
    }

    private static void ofConditions() {
        terms("COND: ALL { or ALL } ALL: ONE { and ONE } ONE: { not } ( VALUE SIGN VALUE | \"(\" COND \")\" ) "
            + "VALUE: N | year | stands | grace | strength | number SIGN: < | = | >");
        hold(true, "1=1", "not 1=2", "not not 1=1", "not not not 1=2", "1=1 and 2=2", "1=2 or 2=2", "2=2 or 1=2", "1=2 or 1=3 or 1=1",
            "1=1 and 2=2 and 3=3", "1=1 or 1=2 and 1=3", "1=2 and 1=3 or 1=1", "1=2 and 1=1 or 1=1", "not 1=2 and 1=1", "not 1=2 or 1=2",
            "(1=1)", "not (1=2)", "not (1=1 and 1=2)", "(1=1 or 1=2) and 1=1", "1=1 and (1=2 or 1=1)", "not (not (not (1=2)))",
            "(0=1 or (2=2 and not (3=4)))", "1=2 or 1=1 and 1=1", "not (1=2) and not (1=3)", "not (1=2 or 1=3)", "1<2", "2>1", "not 2<1");
        hold(false, "1=2", "not 1=1", "not not 1=2", "1=1 and 1=2", "1=2 and 1=1", "1=2 or 1=3", "1=1 and 1=1 and 1=2", "1=2 and 1=1 and 1=1",
            "1=2 and 1=1 or 1=3", "1=2 or 1=1 and 1=3", "(1=1 or 1=2) and 1=3", "not 1=1 and 1=1", "not 1=1 or 1=2", "not (1=2 or 1=1)",
            "(1=2)", "((1=1) and (1=2))", "not (1=1)", "1=3 and (1=1 or 1=1)", "not (not 1=1 or 1=2)  and 1=2", "1<1", "1>1", "2<1", "1>2");
        // the longest rows that a TEXT has room for
        hold(true, "1=1" + " and 1=1".repeat(20), "1=2" + " or 1=2".repeat(20) + " or 1=1", "not ".repeat(40) + "1=1", "(((" + "1=1)))",
            "1=2 or 1=1 and (1=2 or 1=1 and (1=2 or 1=1 and (1=2 or 1=1 and 1=1)))");
        hold(false, "1=1" + " and 1=1".repeat(20) + " and 1=2", "1=2" + " or 1=2".repeat(20), "not ".repeat(41) + "1=1",
            "1=2 or 1=1 and (1=2 or 1=1 and (1=2 or 1=1 and (1=2 or 1=1 and 1=2)))");
        right(1, "hand if year<stands spare;", "hand if grace=strength spare;", "hand if number>0 spare;", "hand if 0<year late 1;");
    }

    private static void ofNumbers() {
        terms("N are NUMBERS 0 to 9999.");
        hold(true, "0=0", "9999=9999", "9998<9999", "9999>9998", "0<1", "0000=0", "0007=7", "year<9999", "9999>year", "year>0", "stands=0007");
        hold(false, "0>0", "9999<9999", "9999=9998", "0=1", "year>9999", "0>year", "0000=0001");
        faults("hand if |10000=1 spare;", "hand if 1=|10000 spare;", "hand if |00000=1 spare;", "hand if year<|00001 spare;",
            "hand if |99999999999=1 spare;", "hand if |-1=1 spare;", "hand if 1|.5=1 spare;");
    }

    private static void ofFacts() {
        terms("FACTS: the YEAR that comes; the WEIGHTS of its DEEDS that STAND, together; its GRACE, STRENGTH; its number.");
        hold(true, "year=4", "year>3", "year<5", "stands=7", "stands>6", "stands<8", "grace=2", "grace>1", "grace<3", "strength=5",
            "strength>4", "strength<6", "number=1", "number>0", "number<2", "year<strength", "year>number", "stands>strength");
        hold(false, "year=3", "year=5", "year<4", "year>4", "stands=6", "stands=8", "stands<7", "stands>7", "grace=1", "grace<2", "grace>2",
            "strength=6", "strength<5", "strength>5", "number=0", "number<1", "number>1", "stands=0");
        // nothing STANDS of it; all ten of it, of the heaviest
        LeftUndoes x = people(2, 9, 9, 2, 9, 9);
        for (int d = 0; d < 10; d++) x.deed(1, 0, 9, -1);
        told(x, "hand if stands=0 spare; hand early 99;");
        due("OPEN ones don't STAND", x.personOf(1, 5), 10);
        told(x, "hand if stands=90 early 18; hand if stands=0 early 99;");
        due("all of them done, one undone in YEAR 0", x.year(), 81);
        told(x, "hand if stands=81 early 99;");
        due("as the WEIGHTS are by then", x.year(), 72);
        due("none by that again", x.year(), 72);
        LeftUndoes y = single();
        told(y, "hand if year=5 late 0; hand spare;");
        due("the YEAR that comes in THE REST", y.until(0), 5);
        due("and in PLANS: not undone", y.best(4), 9);
        told(y, "hand if grace=1 spare;");
        due("GRACE", y.until(0), NONE);
        y.change(0, 1, 2);
        due("GRACE as it is now", y.until(0), 4);
    }

    private static void ofNamesAndBlanks() {
        terms("NAMES are rows of letters a to z, NUMBERS rows of digits (1 to 4), both as long as they go; blanks (32) part them, "
            + "and stand elsewhere as one likes.");
        right(1, "hand spare;", "  hand  spare  ;  ", "hand if year<3 spare;", "hand if year < 3 spare ;", "hand if(year<3)spare;",
            "hand if not(year<3)and(1=1)or 1=1 spare;", "hand if ( ( year<3 ) ) spare;", "hand if 1=1 early 3 ;");
        right(2, "hand spare;hand spare;", "hand spare ; hand spare ;", " hand spare;   hand spare; ");
        faults("|handspare;", "hand |sparehand;", "|handif year<3 spare;", "hand |ifyear<3 spare;", "hand if |notyear<3 spare;",
            "hand if year<3 |andyear<3 spare;", "hand if |yearyear<3 spare;", "hand if 1=1 |sparehand;", "|ha nd spare;", "hand |sp are;",
            "hand if 1 |2=3 spare;", "hand early 1 |2;", "hand if |ye ar=1 spare;");
        // a byte just outside a to z, 0 to 9, 32 is none of theirs
        for (int b : new int[] {0, 9, 10, 13, 31, 33, 47, 58, 64, 65, 90, 91, 95, 96, 123, 127, 128, 160, 255}) {
            String sign = String.valueOf((char) b);
            due("rules() with the byte " + b + " for a blank", told(new LeftUndoes(), "hand" + sign + "spare;"), -104);
            due("rules() with the byte " + b + " at first", told(new LeftUndoes(), sign + RULE), -100);
            due("rules() with the byte " + b + " at last", told(new LeftUndoes(), RULE + sign), -111);
            due("rules() with the byte " + b + " behind a NUMBER", told(new LeftUndoes(), "hand early 1" + sign + ";"), -112);
        }
    }

    private static void ofBrackets() {
        terms("At most 3 \"(\" are open within one another.");
        right(1, "hand if (((1=1))) spare;", "hand if (((1=1)and(1=1))) spare;", "hand if (((1=1)))or(((1=1))) spare;",
            "hand if ((1=1)and((1=1)or(1=2)))and(1=1) spare;", "hand if (1=1)and(1=1)and(1=1)and(1=1)and(1=1) spare;",
            "hand if not(not(not(1=1)))spare;");
        faults("hand if (((|(1=1)))) spare;", "hand if (((1=1)and(|(1=1)))) spare;", "hand if (((1=1 or |(1=1)))) spare;",
            "hand if ((1=1)and((1=1 and |(1=1)))) spare;", "hand if not(not(not(not |(1=1)))) spare;", "hand if (((|(");
    }

    private static void ofFaults() {
        terms("FAULT: the place (from 0) of the first byte of the first NAME, NUMBER or other byte that can't stand there "
            + "(a NUMBER of more digits, N above 99 behind early or late, the fourth \"(\", the first NAME of the ninth RULE, too), "
            + "or the end (how many bytes there are), if more must come.");
        // the end, wherever more must come
        faults("hand|", "hand |", "hand if|", "hand if not|", "hand if (|", "hand if year|", "hand if year<|", "hand if year<3|",
            "hand if year<3 and|", "hand if year<3 or|", "hand if (year<3|", "hand if (year<3)|", "hand if (year<3) and |",
            "hand if year<3 spare|", "hand if year<3 early|", "hand if year<3 early 5|", "hand early|", "hand late 5|", "hand spare|",
            "hand spare   |", RULE + "hand|", RULE + " hand spare|");
        // what can't stand behind a KIND
        faults("hand |;", "hand |hand spare;", "hand |3;", "hand |(year<3) spare;", "hand |not year<3 spare;", "hand |year<3 spare;", "hand |or",
            "hand |=");
        // where a COND begins, and behind not, "(", and, or
        for (String begun : new String[] {"hand if ", "hand if not ", "hand if (", "hand if 1=1 and ", "hand if 1=1 or ", "hand if ((1=1) or "}) {
            for (String no : new String[] {"spare;", ";", "and", "or", "if", "hand", ")", "<", "=", "early 3;", "10000=1", "years=1", "@"}) {
                faults(begun + "|" + no);
            }
        }
        // for a SIGN, and behind it
        faults("hand if year |3 spare;", "hand if year |year", "hand if year|;", "hand if year|)", "hand if year |and", "hand if year |not",
            "hand if (year|)=1 spare;", "hand if year|!3", "hand if year|(3)");
        faults("hand if year<|=1", "hand if year=|=1", "hand if year>|<1", "hand if year=|(1) spare;", "hand if year=|not 1", "hand if year=|;",
            "hand if year=|spare;", "hand if year=|hand", "hand if year=|if");
        // behind a comparison, bare and in "(", and behind ")"
        faults("hand if 1=1|;", "hand if 1=1|)", "hand if 1=1 |if", "hand if 1=1 |2", "hand if 1=1 |year", "hand if 1=1 |not 1=1", "hand if 1=1|=1",
            "hand if 1=1 |hand", "hand if 1=1|(1=1)", "hand if (1=1 |spare;", "hand if (1=1|;", "hand if (1=1 |early 3);", "hand if (1=1)|)",
            "hand if (1=1)|(1=1)", "hand if (1=1)|=1", "hand if (1=1) |not 1=1", "hand if ((1=1) |spare;", "hand if (1=1)|;", "hand if (1=1) |year");
        // behind a DO, and behind ";"
        faults("hand spare |spare;", "hand spare|,", "hand spare |if 1=1;", "hand spare |hand spare;", "hand early 5 |early", "hand late 5|:",
            "hand early |;", "hand late |spare;", "hand late |(5);", RULE + "|;", RULE + "|3", RULE + "|spare;", RULE + " |if 1=1 spare;",
            RULE + "|(hand spare;)", RULE + RULE + "|han");
        // of several, the first
        faults("|foo bar 99999 (", "hand |foo if 10000=1", RULE + "|Hand 12345");
    }

    private static void feedTold() {
        promise(11, "n bytes (1 to 8) come to THE TAPE, the lowest of eight first: how many it has. BAD; FULL: more than 200.");
        LeftUndoes x = new LeftUndoes();
        // "hand spa" and "re;": of the later ones three bytes count, whatever stands above
        due("feed of 8", x.feed(0x61707320646e6168L, 8), 8);
        due("feed of 3", x.feed(0xffffffffff3b6572L, 3), 11);
        due("rules()", x.rules(), 1);
        dueAll("feed of 1 to 8", each(1, 8, n -> x.feed(-1L, n)), 1, 3, 6, 10, 15, 21, 28, 36);
        due("the byte 255", x.rules(), -100);
        LeftUndoes y = new LeftUndoes();
        // "hand" and blanks; the highest of eight bytes is the last one
        due("feed of 8, the highest byte 200", y.feed(0xc82020646e616820L, 8), 8);
        due("the FAULT is its place", y.rules(), -107);
        for (int n : new int[] {0, 9, -1, 201, LEAST, MOST}) {
            refused("feed of " + n, LeftUndoes::new, o -> o.feed(32, n), BAD);
            refused("feed of " + n + ", full", () -> blanks(200), o -> o.feed(32, n), BAD);
        }
        for (int n = 1; n <= 8; n++) {
            int more = n;
            due("feed up to 200 by " + n, blanks(200 - n).feed(0, n), 200);
            refused("feed beyond 200 by " + n, () -> blanks(201 - more), o -> o.feed(0, more), FULL);
        }
        refused("feed when 200 are there", () -> blanks(200), o -> o.feed(32, 1), FULL);
    }

    private static LeftUndoes blanks(int many) {
        LeftUndoes x = new LeftUndoes();
        feed(x, " ".repeat(many));
        return x;
    }

    private static void rulesTold() {
        promise(12, "THE TAPE tells THE RULES (in place of all): how many; -100 less its FAULT.");
        LeftUndoes x = single();
        due("three", told(x, "hand early 1; hand spare; hand late 9;"), 3);
        due("many(1)", x.many(1), 3);
        due("until(0)", x.until(0), 1);
        due("one in place of all", told(x, "hand late 2;"), 1);
        due("many(1)", x.many(1), 1);
        due("until(0)", x.until(0), 4);
        due("a FAULT behind a RULE that is right", told(x, "hand spare; hand late 100;"), -122);
        due("many(1)", x.many(1), 1);
        due("THE RULES are those yet", x.until(0), 4);
        due("a FAULT at the end", told(x, "hand spare"), -110);
        due("a FAULT of 200 bytes, at the end", told(x, " ".repeat(196) + "hand"), -300);
        due("THE RULES are those yet", x.until(0), 4);
        due("none in place of all", x.rules(), 0);
        due("many(1)", x.many(1), 0);
        due("until(0)", x.until(0), 2);
        refused("a FAULT uses THE TAPE up alone", LeftUndoes::new, o -> told(o, "hand if 1=1 spare"), -117);
        refused("a FAULT changes no RULES", () -> { LeftUndoes y = single(); told(y, "hand late 3;"); return y; },
            o -> told(o, "hand spare; hand if (year=1 spare;"), -128);
        LeftUndoes z = single();
        due("eight", told(z, "heir spare;".repeat(7) + "hand early 1;"), 8);
        due("the eighth counts", z.until(0), 1);
    }
}
