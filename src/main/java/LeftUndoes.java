/**
 * What somebody's right hand does in a year the left one must undo within so many:
 * the document's promises 1 to 56. Each call answers at once, and a refusal is a number below 0.
 */
public final class LeftUndoes {
    public static final int BAD = -1, FULL = -2, NONE = -3, STATE = -4;

    private static final int NO_ROW = -9;
    private static final int NOTHING = -11, OUTSIDE = -12, OTHER_SORT = -13, BELOW_0 = -14, PARTED_BY_0 = -15;

    private static final int HAND = 0, CLASPED = 1, FORGER = 2, TWIN = 3, SLOW = 4, HEIR = 5;
    /** The KIND right above each KIND; above a hand stands nothing else, so it stands above itself. */
    private static final int[] ABOVE = {HAND, HAND, HAND, FORGER, HAND, SLOW};

    private static final int PEOPLE_MOST = 6, DEEDS_MOST = 10, NO_DEED = 10, REPORTS_MOST = 6;
    private static final int END_FIRST = 12, END_MOST = 16, DEED_YEAR_LAST = 15, REPORT_YEAR_LAST = 31;
    private static final int SIZE_MOST = 9, LOAN_MOST = 99, NET_BASE = 10000;
    private static final int OPEN = 0, STANDS = 1, UNDONE = 2, FELL = 3, FAILED = 4;
    private static final int GRACE = 1, STRENGTH = 2;

    private static final int TAPE_MOST = 200, RULES_MOST = 8, BRACKETS_MOST = 3;
    private static final int DIGITS_MOST = 4, YEARS_TOLD_MOST = 99, FAULT_BASE = -100;
    private static final int EARLY = 1, LATE = 2, SPARE = 3;
    private static final int NOT = 0, AND = 1, OR = 2;
    private static final int FACT_BASE = 10000, FACTS = 5, VALUE_BITS = 14, VALUE_MASK = 16383;
    private static final int LESS = 1, SAME = 2, MORE = 3;

    private static final int PLAN_MOST = 4, ROW_ITEMS = 3, OFTEN_MOST = 40, WORTH_ASKED_MOST = 999;
    private static final int SHEETS = 4, SHELVES = 4, ITEMS_MOST = 40, TAKEN_MOST = 20, TRACE_MOST = 30;
    private static final int MISSING = -1, BYTES = 0, SHORTS = 1, INTS = 2, LONGS = 3, BOOLEANS = 4;
    private static final int HOLDS_PERSON = 0, HOLDS_ROW = 1, HOLDS_NOTHING = 2, ROW_TAKEN = 10;

    private final World now;
    private final World kept;
    private boolean isKept;
    /** A line of YEARS on which what is asked is tried, so that nothing changes by it. */
    private final Course line;
    private final Plans plans;
    private final Teller teller;
    private final Hand[] strangers;
    private final int[] groups;
    private final int[][] rows;
    private int rowCount;
    private final int[] sheetSort;
    private final int[] sheetSize;
    private final int[][] items;
    private final int[] shelfHolds;
    private final int[] shelfThing;
    private final int[] shelfSize;
    /** THE TRACE: how many bodies are kept, and behind that their numbers. */
    private final int[] ran;

    public LeftUndoes() {
        ran = new int[TRACE_MOST + 1];
        now = new World(ran);
        kept = new World(ran);
        isKept = false;
        line = new Course();
        plans = new Plans(now);
        teller = new Teller();
        strangers = new Hand[HEIR + 1];
        for (int k = 0; k <= HEIR; k++) strangers[k] = made(k, 0, 1, 1, ran);
        groups = new int[1 << PEOPLE_MOST];
        rows = new int[PLAN_MOST][ROW_ITEMS];
        rowCount = 0;
        sheetSort = new int[SHEETS];
        sheetSize = new int[SHEETS];
        items = new int[SHEETS][ITEMS_MOST];
        for (int s = 0; s < SHEETS; s++) sheetSort[s] = MISSING;
        shelfHolds = new int[SHELVES];
        shelfThing = new int[SHELVES];
        shelfSize = new int[SHELVES];
        for (int s = 0; s < SHELVES; s++) shelfHolds[s] = HOLDS_NOTHING;
    }

    // ---- people, deeds

    public int person(int kind, int grace, int strength) {
        if (!isWithin(kind, CLASPED, HEIR) || !isWithin(grace, 1, SIZE_MOST) || !isWithin(strength, 1, SIZE_MOST)) {
            return BAD;
        }
        if (now.count >= PEOPLE_MOST) return FULL;
        int p = now.count;
        now.people[p] = made(kind, p, grace, strength, ran);
        now.count = p + 1;
        return p;
    }

    public int personOf(int p, int what) {
        if (!now.isPerson(p)) return BAD;
        switch (what) {
            case 0: return now.people[p].kind;
            case GRACE: return now.people[p].grace;
            case STRENGTH: return now.people[p].strength;
            case 3: return now.borne(p, now.course);
            case 4: return now.people[p].pull(now.course.year);
            case 5: return now.choice(p, now.course);
            default: return BAD;
        }
    }

    public int change(int p, int what, int v) {
        if (!now.isPerson(p) || !isWithin(what, GRACE, STRENGTH) || !isWithin(v, 1, SIZE_MOST)) return BAD;
        Hand one = now.people[p];
        if (what == STRENGTH) {
            int was = one.strength;
            one.strength = v;
            return was;
        }
        int was = one.grace;
        one.grace = v;
        now.settle();
        return was;
    }

    public int remake(int p, int kind) {
        if (!now.isPerson(p) || !isWithin(kind, CLASPED, HEIR)) return BAD;
        Hand one = now.people[p];
        now.people[p] = made(kind, p, one.grace, one.strength, ran);
        now.settle();
        return one.kind;
    }

    public int deed(int p, int year, int weight, int need) {
        if (!now.isPerson(p) || !isWithin(year, 0, DEED_YEAR_LAST) || !isWithin(weight, 1, SIZE_MOST)) return BAD;
        if (need != -1 && !now.isDeed(need)) return BAD;
        if (now.deeds >= DEEDS_MOST) return FULL;
        if (year < now.course.year) return STATE;
        int d = now.deeds;
        now.whose[d] = p;
        now.when[d] = year;
        now.weight[d] = weight;
        now.need[d] = need;
        now.deeds = d + 1;
        now.settle();
        return d;
    }

    public int deedOf(int d, int what) {
        if (!now.isDeed(d)) return BAD;
        switch (what) {
            case 0: return now.whose[d];
            case 1: return now.when[d];
            case 2: return now.weight[d];
            case 3: return now.need[d];
            case 4: return now.course.how(d);
            case 5: return now.due[d];
            default: return BAD;
        }
    }

    public int ends(int v) {
        if (!isWithin(v, 1, END_MOST)) return BAD;
        if (v < now.course.year) return STATE;
        int was = now.end;
        now.end = v;
        return was;
    }

    public int anew() {
        int was = now.course.year;
        now.course.clear();
        return was;
    }

    public int state(int what) {
        switch (what) {
            case 0: return now.course.year;
            case 1: return now.end;
            case 2: return now.course.worth;
            case 3: return now.isOver(now.course) ? 1 : 0;
            default: return BAD;
        }
    }

    // ---- the rules

    public int feed(long eight, int n) {
        if (!isWithin(n, 1, 8)) return BAD;
        if (teller.length + n > TAPE_MOST) return FULL;
        for (int k = 0; k < n; k++) teller.tape[teller.length + k] = (int) (eight >>> 8 * k) & 255;
        teller.length += n;
        return teller.length;
    }

    public int rules() {
        int told = teller.tellAll();
        if (told >= 0) now.rules.copy(teller.draft);
        return told;
    }

    // ---- years

    public int year() {
        if (now.isOver(now.course)) return STATE;
        return now.pass(now.course, 0);
    }

    public int standing(int so) {
        if (!isWithin(so, OPEN, FAILED)) return BAD;
        int set = 0;
        for (int d = 0; d < now.deeds; d++) {
            if (now.course.how(d) == so) set |= 1 << d;
        }
        return set;
    }

    public int leaves(int p) {
        if (!now.isPerson(p)) return BAD;
        now.rest(line);
        return now.borne(p, line);
    }

    public int on(int n) {
        if (!isWithin(n, 0, END_MOST)) return BAD;
        line.begin(now.course);
        for (int k = 0; k < n && !now.isOver(line); k++) now.pass(line, 0);
        return line.worth;
    }

    public int until(int d) {
        if (!now.isDeed(d)) return BAD;
        line.begin(now.course);
        if (line.isGone(d)) return NONE;
        for (int k = 0; k < END_MOST && !now.isOver(line); k++) {
            int year = line.year;
            now.pass(line, 0);
            if (line.isGone(d)) return year;
        }
        return NONE;
    }

    public int overdue() {
        return now.overdueInTheEnd(line);
    }

    public int falls(int d) {
        if (!now.isDeed(d)) return BAD;
        if (!now.course.isStanding(d)) return STATE;
        line.begin(now.course);
        now.undo(line, d);
        return line.fell & ~now.course.fell;
    }

    public int graceFor(int p) {
        if (!now.isPerson(p)) return BAD;
        Hand one = now.people[p];
        int was = one.grace, found = 1, most = -1;
        for (int grace = 1; grace <= SIZE_MOST; grace++) {
            one.grace = grace;
            now.settle();
            now.rest(line);
            if (line.worth > most) {
                most = line.worth;
                found = grace;
            }
        }
        one.grace = was;
        now.settle();
        return found;
    }

    public int strengthFor(int p) {
        if (!now.isPerson(p)) return BAD;
        Hand one = now.people[p];
        int was = one.strength, found = NONE;
        for (int strength = 1; strength <= SIZE_MOST && found == NONE; strength++) {
            one.strength = strength;
            if ((now.overdueInTheEnd(line) >> p & 1) == 0) found = strength;
        }
        one.strength = was;
        return found;
    }

    // ---- loans

    public int owe(int p, int q, int v) {
        if (!now.isPerson(p) || !now.isPerson(q) || p == q || !isWithin(v, 0, LOAN_MOST)) return BAD;
        int was = now.loans[p][q];
        now.loans[p][q] = v;
        return was;
    }

    public int owes(int p, int q) {
        if (!now.isPerson(p) || !now.isPerson(q) || p == q) return BAD;
        return now.loans[p][q];
    }

    public int net(int p) {
        if (!now.isPerson(p)) return BAD;
        return NET_BASE + now.netOf(p);
    }

    public int ring(int p) {
        if (!now.isPerson(p)) return BAD;
        int reached = 1 << p;
        for (int many = 1; many <= now.count; many++) {
            reached = now.owedBy(reached);
            if ((reached >> p & 1) == 1) return many;
        }
        return NONE;
    }

    /** People parted into groups whose NETS are 0 together need one payment less than people each. */
    public int payments() {
        int all = 1 << now.count;
        groups[0] = 0;
        for (int set = 1; set < all && set < groups.length; set++) {
            int sum = 0, most = 0;
            for (int p = 0; p < now.count; p++) {
                if ((set >> p & 1) == 0) continue;
                sum += now.netOf(p);
                most = Math.max(most, groups[set ^ 1 << p]);
            }
            groups[set] = sum == 0 ? most + 1 : most;
        }
        return now.count - groups[all - 1];
    }

    // ---- plans

    public int best(int n) {
        if (!isWithin(n, 0, PLAN_MOST)) return BAD;
        plans.tryAll(n, 0);
        return plans.most;
    }

    public int ith(int n, int i) {
        if (!isWithin(n, 0, PLAN_MOST) || !isWithin(i, 0, PLAN_MOST - 1)) return BAD;
        plans.tryAll(n, 0);
        return i < plans.length ? plans.first[i] : NONE;
    }

    public int ways(int n) {
        if (!isWithin(n, 0, PLAN_MOST)) return BAD;
        plans.tryAll(n, 0);
        return plans.alike;
    }

    public int life(int n, int set) {
        if (!isWithin(n, 0, PLAN_MOST) || !now.isDeedSet(set)) return BAD;
        plans.tryAll(n, set);
        return plans.fewest <= PLAN_MOST ? plans.fewest : NONE;
    }

    public int bars(int n, int set) {
        if (!isWithin(n, 0, PLAN_MOST) || !now.isDeedSet(set)) return BAD;
        plans.tryAll(n, set);
        for (int d = 0; d < now.deeds; d++) {
            if ((set >> d & 1) == 1 && (plans.reached >> d & 1) == 0) return d;
        }
        return NONE;
    }

    // ---- a game, strangers, lots

    public int game(int n) {
        if (!isWithin(n, 1, PLAN_MOST)) return BAD;
        return plans.playedOut(n);
    }

    public int play(int n) {
        if (!isWithin(n, 1, PLAN_MOST)) return BAD;
        if (now.isOver(now.course)) return NONE;
        plans.playedOut(n);
        return plans.opening;
    }

    public int report(int weight, int year, int by, int was) {
        if (!isWithin(weight, 1, SIZE_MOST) || !isWithin(year, 0, DEED_YEAR_LAST)) return BAD;
        if (!isWithin(by, 0, REPORT_YEAR_LAST) || !isWithin(was, 0, 1)) return BAD;
        if (now.reports >= REPORTS_MOST) return FULL;
        int r = now.reports;
        now.told[r][0] = weight;
        now.told[r][1] = year;
        now.told[r][2] = by;
        now.told[r][3] = was;
        now.reports = r + 1;
        return r;
    }

    public int forget() {
        int were = now.reports;
        now.reports = 0;
        return were;
    }

    public int span(int what) {
        if (!isWithin(what, 0, 3)) return BAD;
        int many = 0;
        for (int s = 0; s < 5 * SIZE_MOST * SIZE_MOST; s++) {
            Hand one = stranger(s);
            if (now.wrongReports(one) != 0) continue;
            if (what == 1) return one.kind;
            if (what == 2) return one.grace;
            if (what == 3) return one.strength;
            many++;
        }
        return what == 0 ? many : NONE;
    }

    public int liar() {
        int found = REPORTS_MOST;
        for (int s = 0; s < 5 * SIZE_MOST * SIZE_MOST; s++) {
            int wrong = now.wrongReports(stranger(s));
            if (wrong == 0) return NONE;
            for (int r = 0; r < found; r++) {
                if (wrong == 1 << r) found = r;
            }
        }
        return found < REPORTS_MOST ? found : NONE;
    }

    public int seed(int v) {
        int was = now.z;
        now.z = v;
        return was;
    }

    public int lot() {
        if (now.isOver(now.course)) return STATE;
        return now.pass(now.course, now.drawn());
    }

    public int often(int n, int v) {
        if (!isWithin(n, 1, OFTEN_MOST) || !isWithin(v, 0, WORTH_ASKED_MOST)) return BAD;
        int z = now.z, many = 0;
        for (int time = 0; time < n; time++) {
            line.begin(now.course);
            for (int k = 0; k < END_MOST && !now.isOver(line); k++) now.pass(line, now.drawn());
            if (line.worth >= v) many++;
        }
        now.z = z;
        return many;
    }

    // ---- rows

    public int prove(int n) {
        if (!isWithin(n, 0, PLAN_MOST)) return BAD;
        plans.tryAll(n, 0);
        line.begin(now.course);
        for (int k = 0; k < plans.length; k++) {
            rows[k][0] = plans.first[k];
            rows[k][1] = now.pass(line, plans.first[k]);
            rows[k][2] = line.stands;
        }
        rowCount = plans.length;
        return rowCount;
    }

    public int row(int k, int what) {
        if (!isWithin(k, 0, rowCount - 1) || !isWithin(what, 0, ROW_ITEMS - 1)) return NO_ROW;
        return rows[k][what];
    }

    public int alterRow(int k, int what, int v) {
        if (!isWithin(k, 0, rowCount - 1) || !isWithin(what, 0, ROW_ITEMS - 1)) return NO_ROW;
        int was = rows[k][what];
        rows[k][what] = v;
        return was;
    }

    public int judge() {
        line.begin(now.course);
        for (int k = 0; k < rowCount; k++) {
            if (!now.isAct(rows[k][0]) || now.isOver(line)) return k + 1;
            int worth = now.pass(line, rows[k][0]);
            if (worth != rows[k][1] || line.stands != rows[k][2]) return k + 1;
        }
        return 0;
    }

    // ---- the host

    public int sheet(int sheet, int sort, int n) {
        if (!isWithin(sheet, 0, SHEETS - 1) || !isWithin(sort, MISSING, BOOLEANS)) return BAD;
        if (sort != MISSING && n > ITEMS_MOST) return BAD;
        if (sort != MISSING && n < 0) return BELOW_0;
        sheetSort[sheet] = sort;
        sheetSize[sheet] = sort == MISSING ? 0 : n;
        for (int i = 0; i < ITEMS_MOST; i++) items[sheet][i] = 0;
        return 1;
    }

    public int write(int sheet, int i, int v) {
        if (!isWithin(sheet, 0, SHEETS - 1)) return BAD;
        if (sheetSort[sheet] == MISSING) return NOTHING;
        if (!isWithin(i, 0, sheetSize[sheet] - 1)) return OUTSIDE;
        items[sheet][i] = narrowed(sheetSort[sheet], v);
        return 1;
    }

    public int item(int sheet, int sort, int i) {
        if (!isWithin(sheet, 0, SHEETS - 1) || !isWithin(sort, BYTES, BOOLEANS)) return BAD;
        if (sheetSort[sheet] == MISSING) return NOTHING;
        if (sheetSort[sheet] != sort) return OTHER_SORT;
        if (!isWithin(i, 0, sheetSize[sheet] - 1)) return OUTSIDE;
        return items[sheet][i];
    }

    public int goAll(int sheet, int i, int n) {
        int refused = actsRefused(sheet, n);
        if (refused != 0) return refused;
        int worth = 0;
        for (int k = 0; k < n; k++) {
            int at = i + k;
            if (!isWithin(at, 0, sheetSize[sheet] - 1)) return OUTSIDE;
            int held = items[sheet][at];
            if (now.isAct(held) && !now.isOver(now.course)) worth += now.pass(now.course, held);
        }
        return worth;
    }

    public int wouldBe(int sheet, int i, int n) {
        int refused = actsRefused(sheet, n);
        if (refused != 0) return refused;
        line.begin(now.course);
        for (int k = 0; k < n; k++) {
            int at = i + k;
            if (!isWithin(at, 0, sheetSize[sheet] - 1)) return OUTSIDE;
            int held = items[sheet][at];
            if (!now.isAct(held) || now.isOver(line)) return STATE;
            now.pass(line, held);
        }
        return line.worth;
    }

    public int shelf(int shelf, int what, int n) {
        if (!isWithin(shelf, 0, SHELVES - 1) || !isWithin(what, HOLDS_PERSON, HOLDS_NOTHING)) return BAD;
        if (what == HOLDS_PERSON && !now.isPerson(n)) return BAD;
        if (what == HOLDS_ROW && !isWithin(n, 0, SHEETS - 1)) return BAD;
        if (what == HOLDS_ROW) {
            shelfHolds[shelf] = sheetSort[n] == MISSING ? HOLDS_NOTHING : HOLDS_ROW;
            shelfThing[shelf] = sheetSort[n];
            shelfSize[shelf] = sheetSize[n];
        } else {
            shelfHolds[shelf] = what;
            shelfThing[shelf] = n;
            shelfSize[shelf] = 0;
        }
        return 1;
    }

    public int taken(int shelf, int as) {
        if (!isWithin(shelf, 0, SHELVES - 1)) return BAD;
        if (!isWithin(as, HAND, HEIR) && !isWithin(as, ROW_TAKEN + BYTES, ROW_TAKEN + BOOLEANS)) return BAD;
        if (shelfHolds[shelf] == HOLDS_ROW) {
            return as - ROW_TAKEN == shelfThing[shelf] ? shelfSize[shelf] : OTHER_SORT;
        }
        if (!holdsPerson(shelf)) return NOTHING;
        int p = shelfThing[shelf];
        return isUnder(now.people[p].kind, as) ? p : OTHER_SORT;
    }

    public int act(int shelf, int act, int x) {
        ran[0] = 0;
        if (!isWithin(shelf, 0, SHELVES - 1) || !isWithin(act, 0, 3) || !holdsPerson(shelf)) return 0;
        Hand thing = now.people[shelfThing[shelf]];
        thing.parted = false;
        int answer;
        switch (act) {
            case 0: answer = thing.gives(x); break;
            case 1: answer = thing.takes(x); break;
            case 2: answer = thing.splits(x); break;
            default: answer = thing.swears(x); break;
        }
        return thing.parted ? PARTED_BY_0 : answer;
    }

    public int trace(int i) {
        return isWithin(i, 0, ran[0] - 1) ? ran[i + 1] : NONE;
    }

    public int many(int what) {
        switch (what) {
            case 0: return now.count;
            case 1: return now.rules.count;
            case 2: return now.deeds;
            case 3: return now.reports;
            case 4: return rowCount;
            case 5: return teller.length;
            case 6: return ran[0];
            case 7: return now.loansGiven();
            default: return BAD;
        }
    }

    // ---- kept

    public int keep() {
        kept.copy(now, ran);
        isKept = true;
        return 1;
    }

    public int again() {
        if (!isKept) return NONE;
        now.copy(kept, ran);
        return now.count;
    }

    // ---- what the calls share

    private static boolean isWithin(int v, int least, int most) {
        return v >= least && v <= most;
    }

    /** Whether a KIND is the one told, or under it: no KIND is further than two from a hand. */
    private static boolean isUnder(int kind, int as) {
        return kind == as || as == HAND || isWithin(kind, HAND, HEIR) && ABOVE[kind] == as;
    }

    private static Hand made(int kind, int number, int grace, int strength, int[] ran) {
        switch (kind) {
            case CLASPED: return new Clasped(kind, number, grace, strength, ran);
            case FORGER: return new Forger(kind, number, grace, strength, ran);
            case TWIN: return new Twin(kind, number, grace, strength, ran);
            case SLOW: return new Slow(kind, number, grace, strength, ran);
            case HEIR: return new Heir(kind, number, grace, strength, ran);
            default: return new Hand(HAND, number, grace, strength, ran);
        }
    }

    private static int narrowed(int sort, int v) {
        switch (sort) {
            case BYTES: return (byte) v;
            case SHORTS: return (short) v;
            case BOOLEANS: return v != 0 ? 1 : 0;
            default: return v;
        }
    }

    /** The s-th STRANGER: by KINDS, of these by GRACE, of these by STRENGTH. */
    private Hand stranger(int s) {
        int kind = s / (SIZE_MOST * SIZE_MOST) + CLASPED;
        Hand one = strangers[isWithin(kind, CLASPED, HEIR) ? kind : CLASPED];
        one.grace = s / SIZE_MOST % SIZE_MOST + 1;
        one.strength = s % SIZE_MOST + 1;
        return one;
    }

    /** Why a SHEET's items can't be taken for bytes, n of them; 0: they can. */
    private int actsRefused(int sheet, int n) {
        if (!isWithin(sheet, 0, SHEETS - 1) || !isWithin(n, 0, TAKEN_MOST)) return BAD;
        if (sheetSort[sheet] == MISSING) return NOTHING;
        return sheetSort[sheet] == BYTES ? 0 : OTHER_SORT;
    }

    /** Again() may have left fewer PEOPLE than when the shelf was filled. */
    private boolean holdsPerson(int shelf) {
        return shelfHolds[shelf] == HOLDS_PERSON && now.isPerson(shelfThing[shelf]);
    }

    /** One of PEOPLE, or a STRANGER; as a thing it acts, and its bodies tell that they ran. */
    private static class Hand {
        final int kind;
        final int number;
        int grace;
        int strength;
        /** Whether a body of the latest act would have parted by 0: no body runs behind that. */
        boolean parted;
        final int[] ran;

        Hand(int kind, int number, int grace, int strength, int[] ran) {
            this.kind = kind;
            this.number = number;
            this.grace = grace;
            this.strength = strength;
            this.ran = ran;
        }

        int term() {
            return grace;
        }

        int pull(int year) {
            return strength;
        }

        int gives(int x) {
            began(10);
            return x - grace;
        }

        int takes(int x) {
            began(11);
            return gives(x) * 2;
        }

        int splits(int x) {
            began(12);
            int by = grace - number;
            if (by == 0) {
                parted = true;
                return 0;
            }
            return x % by;
        }

        int swears(int x) {
            began(13);
            return takes(x) ^ number;
        }

        final void began(int body) {
            if (ran[0] >= TRACE_MOST) return;
            ran[0]++;
            ran[ran[0]] = body;
        }
    }

    private static final class Clasped extends Hand {
        Clasped(int kind, int number, int grace, int strength, int[] ran) {
            super(kind, number, grace, strength, ran);
        }

        int pull(int year) {
            return year % 3 == 2 ? 0 : super.pull(year);
        }

        int gives(int x) {
            began(20);
            return super.gives(x) + number;
        }
    }

    private static class Forger extends Hand {
        Forger(int kind, int number, int grace, int strength, int[] ran) {
            super(kind, number, grace, strength, ran);
        }

        int term() {
            return super.term() * 2;
        }

        int takes(int x) {
            began(30);
            return 0 - super.takes(x);
        }
    }

    private static final class Twin extends Forger {
        Twin(int kind, int number, int grace, int strength, int[] ran) {
            super(kind, number, grace, strength, ran);
        }

        int term() {
            return super.term() - 1;
        }

        int pull(int year) {
            return super.pull(year) + 1;
        }

        int gives(int x) {
            began(50);
            return super.gives(x) * 3;
        }

        int swears(int x) {
            began(51);
            int sworn = super.swears(x);
            return sworn - splits(grace);
        }
    }

    private static class Slow extends Hand {
        Slow(int kind, int number, int grace, int strength, int[] ran) {
            super(kind, number, grace, strength, ran);
        }

        int term() {
            return super.term() + 2;
        }

        int pull(int year) {
            return super.pull(year) / 2;
        }

        int splits(int x) {
            began(40);
            return super.splits(x + 5);
        }
    }

    private static final class Heir extends Slow {
        Heir(int kind, int number, int grace, int strength, int[] ran) {
            super(kind, number, grace, strength, ran);
        }

        int term() {
            return super.term() + 9;
        }

        int pull(int year) {
            return year >= 9 ? 9 : super.pull(year);
        }

        int takes(int x) {
            began(60);
            return super.takes(x) ^ grace;
        }

        int splits(int x) {
            began(61);
            int left = super.splits(x);
            return parted ? 0 : left + gives(number);
        }
    }

    /** How far a line of YEARS has come: which DEEDS are how (the others are OPEN), what it was WORTH. */
    private static final class Course {
        int year;
        int stands;
        int undone;
        int fell;
        int failed;
        int worth;

        void clear() {
            year = 0;
            stands = 0;
            undone = 0;
            fell = 0;
            failed = 0;
            worth = 0;
        }

        void copy(Course from) {
            year = from.year;
            stands = from.stands;
            undone = from.undone;
            fell = from.fell;
            failed = from.failed;
            worth = from.worth;
        }

        /** As the other one is, but that its own WORTH is counted from here on. */
        void begin(Course from) {
            copy(from);
            worth = 0;
        }

        boolean isStanding(int d) {
            return (stands >> d & 1) == 1;
        }

        boolean isGone(int d) {
            return ((undone | fell) >> d & 1) == 1;
        }

        int how(int d) {
            if (isStanding(d)) return STANDS;
            if ((undone >> d & 1) == 1) return UNDONE;
            if ((fell >> d & 1) == 1) return FELL;
            return (failed >> d & 1) == 1 ? FAILED : OPEN;
        }
    }

    /** All that keep() keeps. Of what isn't there yet (PEOPLE, DEEDS, REPORTS) the rows hold what counts nothing. */
    private static final class World {
        int count;
        final Hand[] people;
        int deeds;
        final int[] whose;
        final int[] when;
        final int[] weight;
        final int[] need;
        /** Of each DEED when it is DUE, of each of PEOPLE its DEEDS as a set: settled whenever they may be others. */
        final int[] due;
        final int[] mine;
        int end;
        int z;
        int reports;
        final int[][] told;
        final int[][] loans;
        final Course course;
        final Rules rules;
        final int[] facts;

        World(int[] ran) {
            people = new Hand[PEOPLE_MOST];
            for (int p = 0; p < PEOPLE_MOST; p++) people[p] = made(HAND, p, 1, 1, ran);
            whose = new int[DEEDS_MOST];
            when = new int[DEEDS_MOST];
            weight = new int[DEEDS_MOST];
            need = new int[DEEDS_MOST];
            due = new int[DEEDS_MOST];
            mine = new int[PEOPLE_MOST];
            end = END_FIRST;
            z = 1;
            told = new int[REPORTS_MOST][4];
            loans = new int[PEOPLE_MOST][PEOPLE_MOST];
            course = new Course();
            rules = new Rules();
            facts = new int[FACTS];
        }

        void copy(World from, int[] ran) {
            count = from.count;
            for (int p = 0; p < PEOPLE_MOST; p++) {
                Hand one = from.people[p];
                people[p] = made(one.kind, p, one.grace, one.strength, ran);
                mine[p] = from.mine[p];
                for (int q = 0; q < PEOPLE_MOST; q++) loans[p][q] = from.loans[p][q];
            }
            deeds = from.deeds;
            for (int d = 0; d < DEEDS_MOST; d++) {
                whose[d] = from.whose[d];
                when[d] = from.when[d];
                weight[d] = from.weight[d];
                need[d] = from.need[d];
                due[d] = from.due[d];
            }
            end = from.end;
            z = from.z;
            reports = from.reports;
            for (int r = 0; r < REPORTS_MOST; r++) {
                for (int k = 0; k < 4; k++) told[r][k] = from.told[r][k];
            }
            course.copy(from.course);
            rules.copy(from.rules);
        }

        boolean isPerson(int p) {
            return isWithin(p, 0, count - 1);
        }

        boolean isDeed(int d) {
            return isWithin(d, 0, deeds - 1);
        }

        boolean isDeedSet(int set) {
            return isWithin(set, 0, (1 << deeds) - 1);
        }

        boolean isAct(int act) {
            return isWithin(act, 0, count);
        }

        boolean isOver(Course c) {
            return c.year >= end;
        }

        void settle() {
            for (int p = 0; p < PEOPLE_MOST; p++) mine[p] = 0;
            for (int d = 0; d < deeds; d++) {
                due[d] = when[d] + people[whose[d]].term();
                mine[whose[d]] |= 1 << d;
            }
        }

        /** The WEIGHTS of the DEEDS of one that STAND, together. */
        int borne(int p, Course c) {
            int its = mine[p] & c.stands;
            int sum = 0;
            for (int d = 0; d < deeds; d++) {
                if ((its >> d & 1) == 1) sum += weight[d];
            }
            return sum;
        }

        int choice(int p, Course c) {
            int its = mine[p] & c.stands;
            if (its == 0) return NO_DEED;
            int pull = people[p].pull(c.year);
            int latest = latestDue(p, c);
            int found = NO_DEED;
            for (int d = 0; d < deeds; d++) {
                if ((its >> d & 1) == 0 || weight[d] > pull || due[d] > latest) continue;
                if (found == NO_DEED || due[d] < due[found]) found = d;
            }
            return found;
        }

        /** The latest DUE that one looks at in the YEAR of a course; nothing is DUE in the YEAR -1 or ahead of it. */
        int latestDue(int p, Course c) {
            if (rules.count == 0) return c.year;
            facts[0] = c.year;
            facts[1] = borne(p, c);
            facts[2] = people[p].grace;
            facts[3] = people[p].strength;
            facts[4] = p;
            for (int r = 0; r < rules.count; r++) {
                if (!isUnder(people[p].kind, rules.kind[r]) || !rules.holds(r, facts)) continue;
                switch (rules.what[r]) {
                    case EARLY: return c.year + rules.years[r];
                    case LATE: return c.year - rules.years[r];
                    default: return -1;
                }
            }
            return c.year;
        }

        /** A YEAR goes by in a course, with that ACT ahead of it: what it is WORTH. */
        int pass(Course c, int act) {
            doDeeds(c);
            for (int p = 0; p < count; p++) {
                if (p == act - 1) continue;
                int d = choice(p, c);
                if (d != NO_DEED) undo(c, d);
            }
            int sum = 0;
            for (int d = 0; d < deeds; d++) {
                if (c.isStanding(d) && due[d] >= c.year) sum += weight[d];
            }
            c.year++;
            c.worth += sum;
            return sum;
        }

        void doDeeds(Course c) {
            for (int d = 0; d < deeds; d++) {
                if (when[d] != c.year || c.how(d) != OPEN) continue;
                if (need[d] == -1 || c.isStanding(need[d])) c.stands |= 1 << d;
                else c.failed |= 1 << d;
            }
        }

        /** What needs a DEED comes behind it, so one walk finds all that falls. */
        void undo(Course c, int d) {
            c.stands &= ~(1 << d);
            c.undone |= 1 << d;
            for (int e = d + 1; e < deeds; e++) {
                if (!c.isStanding(e) || need[e] == -1 || !c.isGone(need[e])) continue;
                c.stands &= ~(1 << e);
                c.fell |= 1 << e;
            }
        }

        /** THE REST goes by on a line. */
        void rest(Course c) {
            c.begin(course);
            for (int k = 0; k < END_MOST && !isOver(c); k++) pass(c, 0);
        }

        /** PEOPLE of whom a DEED is OVERDUE in the last YEAR ahead of END, behind THE REST. */
        int overdueInTheEnd(Course c) {
            rest(c);
            int set = 0;
            for (int d = 0; d < deeds; d++) {
                if (c.isStanding(d) && end - 1 > due[d]) set |= 1 << whose[d];
            }
            return set;
        }

        int netOf(int p) {
            int sum = 0;
            for (int q = 0; q < count; q++) sum += loans[q][p] - loans[p][q];
            return sum;
        }

        /** Those whom one of a set OWES something, as a set. */
        int owedBy(int set) {
            int owed = 0;
            for (int p = 0; p < count; p++) {
                for (int q = 0; q < count; q++) {
                    if ((set >> p & 1) == 1 && loans[p][q] > 0) owed |= 1 << q;
                }
            }
            return owed;
        }

        int loansGiven() {
            int many = 0;
            for (int p = 0; p < count; p++) {
                for (int q = 0; q < count; q++) {
                    if (loans[p][q] > 0) many++;
                }
            }
            return many;
        }

        /** z goes on; the ACT that it draws. */
        int drawn() {
            z = z * 1103515245 + 12345;
            return (z >>> 16) % (count + 1);
        }

        /** The REPORTS that aren't so, if a STRANGER is the one, as a set. */
        int wrongReports(Hand one) {
            int wrong = 0;
            for (int r = 0; r < reports; r++) {
                boolean was = isUndoneBy(one, told[r][0], told[r][1], told[r][2]);
                if (was != (told[r][3] == 1)) wrong |= 1 << r;
            }
            return wrong;
        }

        private static boolean isUndoneBy(Hand one, int weight, int year, int by) {
            for (int y = year + one.term(); y <= by; y++) {
                if (one.pull(y) >= weight) return true;
            }
            return false;
        }
    }

    /** THE RULES; their conditions as rows of steps over truths, of which the latest ones wait. */
    private static final class Rules {
        int count;
        final int[] kind;
        final int[] what;
        final int[] years;
        /** Where the steps of each rule end; those of the next one begin there. */
        final int[] behind;
        final int[] steps;
        int used;

        Rules() {
            kind = new int[RULES_MOST];
            what = new int[RULES_MOST];
            years = new int[RULES_MOST];
            behind = new int[RULES_MOST];
            steps = new int[TAPE_MOST];
        }

        void clear() {
            count = 0;
            used = 0;
        }

        void copy(Rules from) {
            count = from.count;
            used = from.used;
            for (int r = 0; r < count; r++) {
                kind[r] = from.kind[r];
                what[r] = from.what[r];
                years[r] = from.years[r];
                behind[r] = from.behind[r];
            }
            for (int k = 0; k < used; k++) steps[k] = from.steps[k];
        }

        void add(int step) {
            if (used >= TAPE_MOST) return;
            steps[used] = step;
            used++;
        }

        /** The rule that is told whole by now. */
        void close(int itsKind, int itsWhat, int itsYears) {
            if (count >= RULES_MOST) return;
            kind[count] = itsKind;
            what[count] = itsWhat;
            years[count] = itsYears;
            behind[count] = used;
            count++;
        }

        /** The truths that wait are bits, the latest lowest; a rule without a condition has no steps, and holds. */
        boolean holds(int r, int[] facts) {
            int truths = 1;
            for (int k = r == 0 ? 0 : behind[r - 1]; k < behind[r]; k++) {
                int step = steps[k];
                switch (step) {
                    case NOT: truths ^= 1; break;
                    case AND: truths = (truths & 1) == 1 ? truths >> 1 : truths >> 1 & ~1; break;
                    case OR: truths = truths >> 1 | truths & 1; break;
                    default: truths = truths << 1 | (isSo(step, facts) ? 1 : 0); break;
                }
            }
            return (truths & 1) == 1;
        }

        private static boolean isSo(int step, int[] facts) {
            int left = step >> VALUE_BITS & VALUE_MASK;
            int right = step & VALUE_MASK;
            if (left >= FACT_BASE && left - FACT_BASE < facts.length) left = facts[left - FACT_BASE];
            if (right >= FACT_BASE && right - FACT_BASE < facts.length) right = facts[right - FACT_BASE];
            switch (step >> 2 * VALUE_BITS) {
                case LESS: return left < right;
                case SAME: return left == right;
                default: return left > right;
            }
        }
    }

    /** THE TAPE, and the reading of it: each part answers false where what it stands at can't stand there. */
    private static final class Teller {
        private static final int AT_END = 0, AT_NAME = 1, AT_NUMBER = 2, AT_OTHER = 3;

        final int[] tape;
        int length;
        final Rules draft;
        /** What is read now: its sort, where it begins, what is behind it, a NUMBER's value (-1: too many digits). */
        private int sort;
        private int place;
        private int behind;
        private int value;

        Teller() {
            tape = new int[TAPE_MOST];
            draft = new Rules();
        }

        /** The whole TAPE is told into the draft, and used up: how many RULES, or what tells the FAULT. */
        int tellAll() {
            draft.clear();
            behind = 0;
            advance();
            boolean right = true;
            for (int r = 0; r <= RULES_MOST && right && sort != AT_END; r++) right = tellRule();
            int answer = right ? draft.count : FAULT_BASE - place;
            length = 0;
            return answer;
        }

        private boolean tellRule() {
            int kind = kindNamed();
            if (kind < 0 || draft.count >= RULES_MOST) return false;
            advance();
            if (isNamed("if")) {
                advance();
                if (!tellCondition(0)) return false;
            }
            int what = doNamed();
            if (what == 0) return false;
            advance();
            int years = 0;
            if (what != SPARE) {
                if (sort != AT_NUMBER || !isWithin(value, 0, YEARS_TOLD_MOST)) return false;
                years = value;
                advance();
            }
            if (!isByte(';')) return false;
            advance();
            draft.close(kind, what, years);
            return true;
        }

        private boolean tellCondition(int open) {
            if (!tellAllOf(open)) return false;
            for (int k = 0; k < TAPE_MOST && isNamed("or"); k++) {
                advance();
                if (!tellAllOf(open)) return false;
                draft.add(OR);
            }
            return true;
        }

        private boolean tellAllOf(int open) {
            if (!tellOne(open)) return false;
            for (int k = 0; k < TAPE_MOST && isNamed("and"); k++) {
                advance();
                if (!tellOne(open)) return false;
                draft.add(AND);
            }
            return true;
        }

        private boolean tellOne(int open) {
            int nots = 0;
            for (int k = 0; k < TAPE_MOST && isNamed("not"); k++) {
                advance();
                nots++;
            }
            if (isByte('(')) {
                if (open >= BRACKETS_MOST) return false;
                advance();
                if (!tellCondition(open + 1) || !isByte(')')) return false;
                advance();
            } else if (!tellComparison()) {
                return false;
            }
            if (nots % 2 == 1) draft.add(NOT);
            return true;
        }

        private boolean tellComparison() {
            int left = valueNamed();
            if (left < 0) return false;
            advance();
            int sign = isByte('<') ? LESS : isByte('=') ? SAME : isByte('>') ? MORE : 0;
            if (sign == 0) return false;
            advance();
            int right = valueNamed();
            if (right < 0) return false;
            advance();
            draft.add((sign << VALUE_BITS | left) << VALUE_BITS | right);
            return true;
        }

        private int kindNamed() {
            if (isNamed("hand")) return HAND;
            if (isNamed("clasped")) return CLASPED;
            if (isNamed("forger")) return FORGER;
            if (isNamed("twin")) return TWIN;
            if (isNamed("slow")) return SLOW;
            return isNamed("heir") ? HEIR : -1;
        }

        private int doNamed() {
            if (isNamed("early")) return EARLY;
            if (isNamed("late")) return LATE;
            return isNamed("spare") ? SPARE : 0;
        }

        /** A NUMBER, or FACT_BASE and which FACT; -1: neither, or too many digits. */
        private int valueNamed() {
            if (sort == AT_NUMBER) return value;
            if (isNamed("year")) return FACT_BASE;
            if (isNamed("stands")) return FACT_BASE + 1;
            if (isNamed("grace")) return FACT_BASE + 2;
            if (isNamed("strength")) return FACT_BASE + 3;
            return isNamed("number") ? FACT_BASE + 4 : -1;
        }

        private boolean isByte(int sign) {
            return sort == AT_OTHER && tape[place] == sign;
        }

        private boolean isNamed(String name) {
            if (sort != AT_NAME || behind - place != name.length()) return false;
            for (int k = 0; k < name.length(); k++) {
                if (tape[place + k] != name.charAt(k)) return false;
            }
            return true;
        }

        /** To the next NAME, NUMBER or other byte. */
        private void advance() {
            int at = behind;
            for (int k = 0; k < TAPE_MOST && isAt(at, ' ', ' '); k++) at++;
            place = at;
            behind = at + 1;
            if (at >= length) {
                sort = AT_END;
                place = length;
                behind = length;
            } else if (isAt(at, 'a', 'z')) {
                sort = AT_NAME;
                for (int k = 0; k < TAPE_MOST && isAt(behind, 'a', 'z'); k++) behind++;
            } else if (isAt(at, '0', '9')) {
                sort = AT_NUMBER;
                for (int k = 0; k < TAPE_MOST && isAt(behind, '0', '9'); k++) behind++;
                value = numberRead();
            } else {
                sort = AT_OTHER;
            }
        }

        private boolean isAt(int at, int least, int most) {
            return at >= 0 && at < length && tape[at] >= least && tape[at] <= most;
        }

        private int numberRead() {
            if (behind - place > DIGITS_MOST) return -1;
            int number = 0;
            for (int at = place; at < behind; at++) number = number * 10 + tape[at] - '0';
            return number;
        }
    }

    /** All PLANS of so many YEARS, tried one behind the other, those with lesser ACTS first; and the GAME on them. */
    private static final class Plans {
        final World world;
        /** How it is behind each of a PLAN's YEARS; the first is how it is ahead of all. */
        private final Course[] lines;
        private final int[] acts;
        private int wanted;
        int length;
        /** The most WORTH, how many PLANS have it, and the FIRST of these. */
        int most;
        int alike;
        final int[] first;
        /** The fewest HELD with which all that is wanted STANDS, and all that STANDS behind some PLAN. */
        int fewest;
        int reached;
        int opening;

        Plans(World world) {
            this.world = world;
            lines = new Course[PLAN_MOST + 1];
            for (int k = 0; k <= PLAN_MOST; k++) lines[k] = new Course();
            acts = new int[PLAN_MOST];
            first = new int[PLAN_MOST];
        }

        private void start(int n) {
            int yet = Math.max(0, world.end - world.course.year);
            length = Math.min(Math.min(n, PLAN_MOST), yet);
            lines[0].begin(world.course);
        }

        void tryAll(int n, int set) {
            start(n);
            wanted = set;
            most = -1;
            alike = 0;
            fewest = PLAN_MOST + 1;
            reached = 0;
            tryFrom(0, 0);
        }

        private void tryFrom(int depth, int held) {
            if (depth >= length) {
                weigh(lines[length], held);
                return;
            }
            for (int act = 0; act <= world.count; act++) {
                acts[depth] = act;
                lines[depth + 1].copy(lines[depth]);
                world.pass(lines[depth + 1], act);
                tryFrom(depth + 1, act == 0 ? held : held + 1);
            }
        }

        private void weigh(Course end, int held) {
            reached |= end.stands;
            if ((end.stands & wanted) == wanted) fewest = Math.min(fewest, held);
            if (end.worth > most) {
                most = end.worth;
                alike = 0;
                for (int k = 0; k < length; k++) first[k] = acts[k];
            }
            if (end.worth == most) alike++;
        }

        int playedOut(int n) {
            start(n);
            opening = 0;
            return valueFrom(0);
        }

        /** Who begins wants much at each even depth, the other one little at each odd one. */
        private int valueFrom(int depth) {
            if (depth >= length) return lines[length].worth;
            int value = 0;
            for (int act = 0; act <= world.count; act++) {
                lines[depth + 1].copy(lines[depth]);
                world.pass(lines[depth + 1], act);
                int comes = valueFrom(depth + 1);
                if (act > 0 && (depth % 2 == 0 ? comes <= value : comes >= value)) continue;
                value = comes;
                if (depth == 0) opening = act;
            }
            return value;
        }
    }
}
