/**
 * When a rehearsal begins whose comers' minutes make each other.
 * The words in capitals, and what each call answers, are those of the project's document.
 */
public final class HallMinutes {
    public static final int NONE = -1, BAD = -2, NOT = -3, FULL = -4;

    private static final int COMERS = 8;
    private static final int NEVER = 60;
    private static final int LAST_WEEK = 60;
    private static final int ROUNDS = 20;

    private static final int NOBODY = -1, PLAIN = 0, PUNCTUAL = 1, LOOKING = 2;
    private static final int MOST_LAG = 30, MOST_SEEN = 7;

    private static final int WAIT = 0, LATE = 1, MISS = 2, LOT = 3, DELAY = 4;
    private static final int[] COST_AT_FIRST = {1, 1, 100, 0, 5};
    private static final int[] COST_LEAST = {0, 0, 0, 0, 1};
    private static final int[] COST_MOST = {99, 99, 999, 15, 30};

    private static final int TOLD = 0, FINE = 1, FOOD = 2;
    private static final int[] TERM_MOST = {59, 99, 99};
    private static final int MOST_TRIED = 40;
    private static final int MOST_GUESTS = 3;

    private static final int RULE_BYTES = 40;
    private static final int ALTERNATIVES = 20;

    private static final int LEAST_STEP = 5, MOST_STEP = 30;
    private static final int GRID_MINUTES = 13;
    private static final int GRID_PLAIN = 3;
    private static final int GRID_WAYS = GRID_MINUTES * GRID_MINUTES * GRID_MINUTES;

    // The library's own names for these do not stand in the list of LANGUAGE.md 4.
    private static final int LEAST_INT = 1 << 31, MOST_INT = ~LEAST_INT;
    private static final long LEAST_LONG = 1L << 63, MOST_LONG = ~LEAST_LONG;

    private static final int PAY_BAD = -10000, LOST_FULL = -10001, LOST_NOT = -10002;
    private static final long LONG_BAD = LEAST_LONG - BAD;

    private static final int SHEETS = 4, ITEMS = 64, FORMS = 3;
    private static final int BYTES = 0, SHORTS = 1;
    private static final int NULL = 1, INDEX = 2, CAST = 3, STORE = 4, SIZE = 5;

    private final Company company = new Company();
    private final Rule rule = new Rule();
    private final Evening now = new Evening(company, rule);
    /** All that is only asked, and not done, is tried out here, so that what is stays as it was. */
    private final Evening trial = new Evening(company, rule);
    private final Grid grid = new Grid(trial);
    private final Weeks weeks = new Weeks(trial);
    private final Roads roads = new Roads(company, trial);
    private final Sheets sheets = new Sheets();

    public HallMinutes() {
    }

    // ---- comers

    public int comer(int kind, int a, int b) {
        if (!mayCome(kind, a, b)) {
            return BAD;
        }
        int comer = company.number;
        if (comer < 0 || comer >= COMERS) {
            return FULL;
        }
        company.number = comer + 1;
        company.lag[comer] = kind == LOOKING ? a : 0;
        company.seen[comer] = kind == LOOKING ? b : 0;
        now.kind[comer] = kind;
        now.aim[comer] = kind == PLAIN ? a : 0;
        return comer;
    }

    public int aim(int comer, int minute) {
        if (!isPlain(comer) || !mayAim(minute)) {
            return BAD;
        }
        int before = now.aim[comer];
        now.aim[comer] = minute;
        return before;
    }

    public int read(int s) {
        if (!isSheet(s)) {
            return BAD;
        }
        if (sheets.isGone(s)) {
            return sheets.finds(NULL);
        }
        int taken = 0;
        for (int comer = 0; comer < COMERS; comer++) {
            if (now.kind[comer] != PLAIN) {
                continue;
            }
            if (taken >= sheets.size[s] || !mayAim(sheets.item[s][taken])) {
                break;
            }
            now.aim[comer] = sheets.item[s][taken];
            taken++;
        }
        return taken;
    }

    public int cost(int comer, int what, int v) {
        if (!isComer(comer) || what < WAIT || what > DELAY || v < COST_LEAST[what] || v > COST_MOST[what]) {
            return BAD;
        }
        if (now.kind[comer] == LOOKING && (what == LOT || what == DELAY)) {
            return BAD;
        }
        int before = company.cost[what][comer];
        company.cost[what][comer] = v;
        return before;
    }

    public int set(int what, int v) {
        if (what < TOLD || what > FOOD || v < 0 || v > TERM_MOST[what]) {
            return BAD;
        }
        int before = now.term[what];
        now.term[what] = v;
        return before;
    }

    // ---- the rule

    public int type(int b) {
        if (b < 0 || b > 255) {
            return BAD;
        }
        return rule.takes(b) ? rule.length : FULL;
    }

    public int wipe() {
        int before = rule.length;
        rule.empties();
        return before;
    }

    public int fault() {
        return rule.faultAt;
    }

    public int begins() {
        return now.reckon();
    }

    public int comes(int comer) {
        if (!isComer(comer)) {
            return BAD;
        }
        now.reckon();
        return now.when[comer];
    }

    public int pays(int comer) {
        if (comer == NONE) {
            return now.together();
        }
        if (!isComer(comer)) {
            return PAY_BAD;
        }
        int start = now.reckon();
        return now.price(comer, now.when[comer], start);
    }

    // ---- rests

    public int best(int comer, boolean last) {
        return isPlain(comer) ? now.bestOf(comer, last) : BAD;
    }

    public int restless() {
        return now.firstRestless();
    }

    public int climb(boolean down, int comer) {
        if (comer != NONE && !isPlain(comer)) {
            return BAD;
        }
        trial.becomes(now);
        if (!trial.climbs(down)) {
            return NONE;
        }
        return comer == NONE ? trial.reckon() : trial.aim[comer];
    }

    public int rests(int g, int i, int comer) {
        if (!isStep(g) || i < NONE || (i == NONE) != (comer == NONE)) {
            return BAD;
        }
        if (comer != NONE && !isPlain(comer)) {
            return BAD;
        }
        if (Integer.bitCount(now.plainBits()) > GRID_PLAIN) {
            return FULL;
        }
        trial.becomes(now);
        grid.lay(g);
        int found = grid.walk(i);
        if (comer == NONE) {
            return found;
        }
        return found > i ? trial.aim[comer] : NONE;
    }

    public int lost(int g, int i) {
        if (!isStep(g) || i < NONE) {
            return PAY_BAD;
        }
        if (Integer.bitCount(now.plainBits()) > GRID_PLAIN) {
            return LOST_FULL;
        }
        trial.becomes(now);
        grid.lay(g);
        if (i == NONE) {
            return grid.good();
        }
        if (grid.walk(i) <= i) {
            return LOST_NOT;
        }
        int together = trial.together();
        return together - grid.good();
    }

    // ---- weeks

    public int week(int week) {
        if (week < 0 || week > LAST_WEEK) {
            return BAD;
        }
        trial.becomes(now);
        weeks.run(week);
        return weeks.begin[week];
    }

    public int round(int what) {
        if (what != 0 && what != 1) {
            return BAD;
        }
        trial.becomes(now);
        weeks.run(LAST_WEEK);
        return what == 0 ? weeks.first : weeks.later;
    }

    // ---- what is told, fines, guests

    public int moved(int wish) {
        if (wish < 0 || wish >= NEVER) {
            return BAD;
        }
        int nearest = 0;
        int least = NEVER + 1;
        for (int told = 0; told < NEVER; told++) {
            trial.becomes(now);
            trial.term[TOLD] = told;
            int start = trial.climbs(false) ? trial.reckon() : NEVER;
            int far = Math.abs(start - wish);
            if (far < least) {
                least = far;
                nearest = told;
            }
        }
        return nearest;
    }

    public int least(boolean food) {
        for (int tried = 0; tried <= MOST_TRIED; tried++) {
            trial.becomes(now);
            trial.term[food ? FOOD : FINE] = tried;
            if (trialIsInTime()) {
                return tried;
            }
        }
        return NONE;
    }

    public int keys(int what) {
        if (what != 0 && what != 1) {
            return BAD;
        }
        int start = now.reckon();
        if (start >= NEVER) {
            return 0;
        }
        return what == 0 ? keyBits() : now.comingAt(start);
    }

    public int guests() {
        int plain = now.plainBits();
        for (int many = 0; many <= MOST_GUESTS; many++) {
            for (int bits = 0; bits < 1 << COMERS; bits++) {
                if (Integer.bitCount(bits) != many || (bits & ~plain) != 0) {
                    continue;
                }
                trial.becomes(now);
                trial.makePunctual(bits);
                if (trialIsInTime()) {
                    return bits;
                }
            }
        }
        return NONE;
    }

    // ---- roads

    public long odds(int minute, int what) {
        if (minute < 0 || minute >= NEVER || (what != 0 && what != 1)) {
            return LONG_BAD;
        }
        trial.becomes(now);
        return roads.lowest(roads.begunBy(minute), what);
    }

    public long mean(int comer, int what) {
        if (!isComer(comer) || (what != 0 && what != 1)) {
            return LONG_BAD;
        }
        trial.becomes(now);
        return roads.lowest(roads.priceOf(comer), what);
    }

    public int sure(int comer) {
        if (!isPlain(comer)) {
            return BAD;
        }
        trial.becomes(now);
        int best = 0;
        long least = MOST_LONG;
        for (int minute = 0; minute <= NEVER; minute++) {
            trial.aim[comer] = minute;
            long price = roads.priceOf(comer);
            if (price < least) {
                least = price;
                best = minute;
            }
        }
        return best;
    }

    // ---- sheets

    public int sheet(int s, int form, int n) {
        if (!isSheet(s) || !isForm(form) || n > ITEMS) {
            return BAD;
        }
        if (n < 0) {
            return sheets.finds(SIZE);
        }
        sheets.lay(s, form, n);
        return n;
    }

    public int lose(int s) {
        if (!isSheet(s)) {
            return BAD;
        }
        if (sheets.isGone(s)) {
            return sheets.finds(NULL);
        }
        int had = sheets.size[s];
        sheets.drop(s);
        return had;
    }

    public int put(int s, int form, int i, int v) {
        if (!isSheet(s) || !isForm(form)) {
            return BAD;
        }
        int finding = sheets.findingAt(s, form, i);
        if (finding != 0) {
            return sheets.finds(finding);
        }
        sheets.item[s][i] = sheets.lowest(form, v);
        return 1;
    }

    public int get(int s, int form, int i) {
        if (!isSheet(s) || !isForm(form)) {
            return LEAST_INT;
        }
        int finding = sheets.findingAt(s, form, i);
        if (finding != 0) {
            sheets.finds(finding);
            return LEAST_INT;
        }
        return sheets.item[s][i];
    }

    public int copy(int s, int i, int t, int j, int n) {
        if (!isSheet(s) || !isSheet(t)) {
            return BAD;
        }
        if (sheets.isGone(s) || sheets.isGone(t)) {
            return sheets.finds(NULL);
        }
        if (sheets.form[s] != sheets.form[t]) {
            return sheets.finds(STORE);
        }
        if (n < 0 || !sheets.hasItems(s, i, n) || !sheets.hasItems(t, j, n)) {
            return sheets.finds(INDEX);
        }
        System.arraycopy(sheets.item[s], i, sheets.item[t], j, n);
        return 1;
    }

    public int write(int s) {
        if (!isSheet(s)) {
            return BAD;
        }
        if (sheets.isGone(s)) {
            return sheets.finds(NULL);
        }
        int many = Math.min(sheets.size[s], LAST_WEEK + 1);
        trial.becomes(now);
        weeks.run(many - 1);
        for (int week = 0; week < many; week++) {
            sheets.item[s][week] = weeks.begin[week];
        }
        return many;
    }

    public int count(int what) {
        switch (what) {
            case 0:
                return company.number;
            case 1:
                return now.plainBits();
            case 2:
                return now.term[TOLD];
            case 3:
                return now.term[FINE];
            case 4:
                return now.term[FOOD];
            case 5:
                return rule.length;
            case 6:
                return now.aimsTogether();
            case 7:
                return company.lotsTogether();
            case 8:
                return sheets.latest;
            default:
                return BAD;
        }
    }

    public long digest() {
        long h = 17;
        for (int what = 0; what <= 7; what++) {
            h = 31 * h + count(what);
        }
        h = 31 * h + fault();
        h = 31 * h + begins();
        for (int comer = 0; comer < company.number; comer++) {
            h = 31 * h + comes(comer);
            h = 31 * h + pays(comer);
        }
        h = 31 * h + restless();
        h = 31 * h + climb(false, NONE);
        h = 31 * h + climb(true, NONE);
        h = 31 * h + week(1);
        h = 31 * h + week(2);
        h = 31 * h + keys(0);
        h = 31 * h + keys(1);
        return 31 * h + odds(30, 0);
    }

    // ---- what may be, and what is asked more than once

    private static boolean mayCome(int kind, int a, int b) {
        switch (kind) {
            case PLAIN:
                return mayAim(a) && b == 0;
            case PUNCTUAL:
                return a == 0 && b == 0;
            case LOOKING:
                return a >= 1 && a <= MOST_LAG && b >= 1 && b <= MOST_SEEN;
            default:
                return false;
        }
    }

    private static boolean mayAim(int minute) {
        return minute >= 0 && minute <= NEVER;
    }

    private static boolean isStep(int g) {
        return g >= LEAST_STEP && g <= MOST_STEP;
    }

    private static boolean isSheet(int s) {
        return s >= 0 && s < SHEETS;
    }

    private static boolean isForm(int form) {
        return form >= 0 && form < FORMS;
    }

    private boolean isComer(int comer) {
        return comer >= 0 && comer < COMERS && now.kind[comer] != NOBODY;
    }

    private boolean isPlain(int comer) {
        return comer >= 0 && comer < COMERS && now.kind[comer] == PLAIN;
    }

    private boolean trialIsInTime() {
        return trial.climbs(true) && trial.reckon() <= trial.term[TOLD];
    }

    private int keyBits() {
        int bits = 0;
        for (int comer = 0; comer < COMERS; comer++) {
            trial.becomes(now);
            trial.away = 1 << comer;
            if (trial.reckon() >= NEVER) {
                bits |= 1 << comer;
            }
        }
        return bits;
    }

    /** What COMERS keep whatever evening is tried out: how they look, what they mind, their ROADS. */
    private static final class Company {
        int number;
        final int[] lag = new int[COMERS];
        final int[] seen = new int[COMERS];
        final int[][] cost = new int[COST_AT_FIRST.length][COMERS];

        Company() {
            for (int what = 0; what < COST_AT_FIRST.length; what++) {
                for (int comer = 0; comer < COMERS; comer++) {
                    cost[what][comer] = COST_AT_FIRST[what];
                }
            }
        }

        int lotsTogether() {
            int sum = 0;
            for (int comer = 0; comer < COMERS; comer++) {
                sum += cost[LOT][comer];
            }
            return sum;
        }
    }

    /**
     * THE RULE. No CONDITION ceases to be so once it is so; an ALTERNATIVE is therefore kept as
     * what its CONDITIONS ask for together, and read once for each change of the text.
     */
    private static final class Rule {
        int length;
        /** 0 for a new object, whose text is empty. */
        int faultAt;
        private final int[] text = new int[RULE_BYTES];
        private int at;
        private int alternatives;
        private final int[] from = new int[ALTERNATIVES];
        private final boolean[] tells = new boolean[ALTERNATIVES];
        private final int[] many = new int[ALTERNATIVES];
        private final int[] who = new int[ALTERNATIVES];
        private int openFrom;
        private boolean openTells;
        private int openMany;
        private int openWho;

        boolean takes(int b) {
            if (length < 0 || length >= RULE_BYTES) {
                return false;
            }
            text[length] = b;
            length++;
            parse();
            return true;
        }

        void empties() {
            length = 0;
            parse();
        }

        private void parse() {
            at = 0;
            faultAt = NONE;
            alternatives = 0;
            opens();
            boolean more = true;
            for (int part = 0; part <= RULE_BYTES && more; part++) {
                more = readsCondition() && readsJoint();
            }
            if (faultAt != NONE) {
                alternatives = 0;
            }
        }

        /** The byte at the reader's place; NONE behind the end. */
        private int here() {
            return at >= 0 && at < length && at < RULE_BYTES ? text[at] : NONE;
        }

        private boolean readsCondition() {
            int letter = here();
            if (letter != 'm' && letter != 'n' && letter != 'k' && letter != 't') {
                faultAt = at;
                return false;
            }
            at++;
            if (letter == 't') {
                openTells = true;
            } else if (letter == 'm') {
                openFrom = Math.max(openFrom, number(2, 0, NEVER - 1));
            } else if (letter == 'n') {
                openMany = Math.max(openMany, number(1, 1, COMERS));
            } else {
                int comer = number(1, 0, COMERS - 1);
                openWho |= comer == NONE ? 0 : 1 << comer;
            }
            return faultAt == NONE;
        }

        /** The number at the reader's place; NONE, with a FAULT, if it may not be. */
        private int number(int figures, int least, int most) {
            int start = at;
            int value = 0;
            for (int figure = 0; figure < figures && here() >= '0' && here() <= '9'; figure++) {
                value = value * 10 + here() - '0';
                at++;
            }
            if (at == start || value < least || value > most) {
                faultAt = start;
                return NONE;
            }
            return value;
        }

        private boolean readsJoint() {
            int sign = here();
            if (sign == '&') {
                at++;
                return true;
            }
            if (sign == '|') {
                at++;
                closes();
                opens();
                return true;
            }
            if (at < length) {
                faultAt = at;
            } else {
                closes();
            }
            return false;
        }

        private void opens() {
            openFrom = 0;
            openTells = false;
            openMany = 0;
            openWho = 0;
        }

        private void closes() {
            if (alternatives < 0 || alternatives >= ALTERNATIVES) {
                return;
            }
            from[alternatives] = openFrom;
            tells[alternatives] = openTells;
            many[alternatives] = openMany;
            who[alternatives] = openWho;
            alternatives++;
        }

        /**
         * The MINUTE at which it is so that IT BEGINS: with TOLD, the first MINUTES at which
         * 1, 2 .. are there, how many of these there are, and when each COMER comes.
         */
        int beginning(int told, int[] order, int there, int[] when) {
            int first = NEVER;
            for (int i = 0; i < alternatives && i < ALTERNATIVES; i++) {
                int minute = from[i];
                if (tells[i] && told > minute) {
                    minute = told;
                }
                int place = many[i] - 1;
                if (place >= there || place >= order.length) {
                    continue;
                }
                if (place >= 0 && order[place] > minute) {
                    minute = order[place];
                }
                int left = who[i];
                for (int comer = 0; left != 0 && comer < when.length; comer++) {
                    if ((left & 1) != 0 && when[comer] > minute) {
                        minute = when[comer];
                    }
                    left >>>= 1;
                }
                if (minute < first) {
                    first = minute;
                }
            }
            return first;
        }
    }

    /** One evening: what is told, at what all AIM, and who comes when by that. */
    private static final class Evening {
        final int[] term = new int[TERM_MOST.length];
        final int[] kind = new int[COMERS];
        final int[] aim = new int[COMERS];
        final int[] when = new int[COMERS];
        /** Bits of those whom their ROADS make late, and of those who come at 60, whatever they are. */
        int late;
        int away;
        private final Company company;
        private final Rule rule;
        private final int[] order = new int[COMERS];
        private int there;
        private final int[] firm = new int[COMERS];
        private int firms;
        private final int[] looker = new int[COMERS];
        private int lookers;
        private final int[] next = new int[COMERS];

        Evening(Company company, Rule rule) {
            this.company = company;
            this.rule = rule;
            for (int comer = 0; comer < COMERS; comer++) {
                kind[comer] = NOBODY;
                when[comer] = NEVER;
            }
        }

        void becomes(Evening other) {
            System.arraycopy(other.term, 0, term, 0, TERM_MOST.length);
            System.arraycopy(other.kind, 0, kind, 0, COMERS);
            System.arraycopy(other.aim, 0, aim, 0, COMERS);
            late = 0;
            away = 0;
        }

        void makePunctual(int bits) {
            for (int comer = 0; comer < COMERS; comer++) {
                if ((bits >> comer & 1) != 0) {
                    kind[comer] = PUNCTUAL;
                }
            }
        }

        int plainBits() {
            int bits = 0;
            for (int comer = 0; comer < COMERS; comer++) {
                if (kind[comer] == PLAIN) {
                    bits |= 1 << comer;
                }
            }
            return bits;
        }

        int aimsTogether() {
            int sum = 0;
            for (int comer = 0; comer < COMERS; comer++) {
                if (kind[comer] == PLAIN) {
                    sum += aim[comer];
                }
            }
            return sum;
        }

        int comingAt(int minute) {
            int bits = 0;
            for (int comer = 0; comer < COMERS; comer++) {
                if (when[comer] == minute) {
                    bits |= 1 << comer;
                }
            }
            return bits;
        }

        /** When IT BEGINS; behind it when[] tells who comes when. */
        int reckon() {
            gather(NONE);
            return settle(NONE, NEVER);
        }

        int together() {
            int start = reckon();
            int sum = 0;
            for (int comer = 0; comer < COMERS; comer++) {
                if (kind[comer] != NOBODY) {
                    sum += price(comer, when[comer], start);
                }
            }
            return sum;
        }

        /**
         * Those whose MINUTES hang on nobody else's, but for one that is left open: they are put
         * in order once, and settle() then adds one MINUTE after the other for the open one.
         */
        private void gather(int open) {
            there = 0;
            lookers = 0;
            for (int comer = 0; comer < COMERS; comer++) {
                when[comer] = NEVER;
                if (comer == open || kind[comer] == NOBODY || (away >> comer & 1) != 0) {
                    continue;
                }
                if (kind[comer] == LOOKING) {
                    looker[lookers] = comer;
                    lookers++;
                } else {
                    when[comer] = firmMinute(comer);
                    enter(when[comer]);
                }
            }
            System.arraycopy(order, 0, firm, 0, COMERS);
            firms = there;
        }

        private int firmMinute(int comer) {
            int minute = kind[comer] == PLAIN ? aim[comer] : term[TOLD];
            if ((late >> comer & 1) != 0) {
                minute += company.cost[DELAY][comer];
            }
            return minute < NEVER ? minute : NEVER;
        }

        private void enter(int minute) {
            if (minute >= NEVER || there < 0 || there >= COMERS) {
                return;
            }
            int place = there;
            while (place > 0 && order[place - 1] > minute) {
                order[place] = order[place - 1];
                place--;
            }
            order[place] = minute;
            there++;
        }

        /** When IT BEGINS, if the open one of gather() comes at a MINUTE. */
        private int settle(int open, int minute) {
            System.arraycopy(firm, 0, order, 0, COMERS);
            there = firms;
            if (open >= 0 && open < COMERS) {
                when[open] = minute;
                enter(minute);
            }
            if (lookers > 0) {
                callLookers();
            }
            return rule.beginning(term[TOLD], order, there, when);
        }

        /** Who looks comes behind what it saw: the order up to a place never changes behind that place. */
        private void callLookers() {
            for (int i = 0; i < lookers && i < COMERS; i++) {
                when[looker[i]] = NEVER;
            }
            for (int place = 0; place < there && place < COMERS; place++) {
                for (int i = 0; i < lookers && i < COMERS; i++) {
                    int comer = looker[i];
                    int minute = order[place] + company.lag[comer];
                    if (company.seen[comer] == place + 1 && minute < NEVER) {
                        when[comer] = minute;
                        enter(minute);
                    }
                }
            }
        }

        /** COST of a COMER that comes at a MINUTE, when IT BEGINS at start. */
        int price(int comer, int minute, int start) {
            if (minute >= NEVER) {
                return company.cost[MISS][comer];
            }
            int price;
            if (minute > start) {
                price = company.cost[LATE][comer] * (minute - start);
            } else {
                price = company.cost[WAIT][comer] * (start - minute) - (start < NEVER ? term[FOOD] : 0);
            }
            return minute > term[TOLD] ? price + term[FINE] : price;
        }

        int bestOf(int comer, boolean last) {
            gather(comer);
            int without = settle(comer, NEVER);
            int best = 0;
            int least = MOST_INT;
            for (int minute = 0; minute <= NEVER; minute++) {
                // Who comes behind the beginning without it changes nothing of that beginning.
                int start = minute > without ? without : settle(comer, minute);
                int price = price(comer, minute, start);
                if (price < least || (last && price == least)) {
                    least = price;
                    best = minute;
                }
            }
            return best;
        }

        /** COST of the one that is open by gather(), at a MINUTE. */
        private int openPrice(int comer, int minute) {
            return price(comer, minute, settle(comer, minute));
        }

        int firstRestless() {
            for (int comer = 0; comer < COMERS; comer++) {
                if (kind[comer] != PLAIN) {
                    continue;
                }
                int best = bestOf(comer, false);
                if (openPrice(comer, best) < openPrice(comer, aim[comer])) {
                    return comer;
                }
            }
            return NONE;
        }

        /** Whether no PLAIN COMER would have less COST at another of the first MINUTES of a row. */
        boolean restsAmong(int[] minutes, int many) {
            for (int comer = 0; comer < COMERS; comer++) {
                if (kind[comer] != PLAIN) {
                    continue;
                }
                gather(comer);
                int price = openPrice(comer, aim[comer]);
                for (int i = 0; i < many && i < minutes.length; i++) {
                    if (openPrice(comer, minutes[i]) < price) {
                        return false;
                    }
                }
            }
            return true;
        }

        /** CLIMBING; whether it comes to rest: then all AIM as they do there. */
        boolean climbs(boolean down) {
            for (int comer = 0; comer < COMERS; comer++) {
                if (kind[comer] == PLAIN) {
                    aim[comer] = down ? NEVER : 0;
                }
            }
            boolean changed = true;
            for (int round = 0; round < ROUNDS && changed; round++) {
                changed = false;
                for (int comer = 0; comer < COMERS; comer++) {
                    if (kind[comer] != PLAIN) {
                        continue;
                    }
                    int best = bestOf(comer, down);
                    changed |= best != aim[comer];
                    aim[comer] = best;
                }
            }
            return !changed;
        }

        void goesToNextWeek() {
            for (int comer = 0; comer < COMERS; comer++) {
                next[comer] = kind[comer] == PLAIN ? bestOf(comer, false) : aim[comer];
            }
            System.arraycopy(next, 0, aim, 0, COMERS);
        }

        /** All AIMS in one number, so that two WEEKS can be compared at once. */
        long aimsAsOne() {
            long all = 0;
            for (int comer = 0; comer < COMERS; comer++) {
                all = all << 6 | aim[comer];
            }
            return all;
        }
    }

    /** The ways of PLAIN COMERS on a GRID, in the order in which RESTS are told. */
    private static final class Grid {
        private final Evening evening;
        private final int[] minutes = new int[GRID_MINUTES];
        private int many;
        private final int[] place = new int[COMERS];

        Grid(Evening evening) {
            this.evening = evening;
        }

        void lay(int step) {
            many = 0;
            for (int minute = 0; minute < NEVER && many < GRID_MINUTES - 1; minute += step) {
                minutes[many] = minute;
                many++;
            }
            minutes[many] = NEVER;
            many++;
        }

        private void toFirstWay() {
            for (int comer = 0; comer < COMERS; comer++) {
                place[comer] = 0;
                if (evening.kind[comer] == PLAIN) {
                    evening.aim[comer] = minutes[0];
                }
            }
        }

        private boolean toNextWay() {
            for (int comer = COMERS - 1; comer >= 0; comer--) {
                if (evening.kind[comer] != PLAIN) {
                    continue;
                }
                int after = place[comer] + 1;
                boolean more = after >= 0 && after < many && after < GRID_MINUTES;
                place[comer] = more ? after : 0;
                evening.aim[comer] = minutes[place[comer]];
                if (more) {
                    return true;
                }
            }
            return false;
        }

        /** How many RESTS there are, up to the i-th: its AIMS are then the evening's; NONE: all. */
        int walk(int i) {
            toFirstWay();
            int found = 0;
            boolean more = true;
            for (int way = 0; way < GRID_WAYS && more; way++) {
                if (evening.restsAmong(minutes, many)) {
                    found++;
                    if (i != NONE && found > i) {
                        return found;
                    }
                }
                more = toNextWay();
            }
            return found;
        }

        int good() {
            toFirstWay();
            int least = MOST_INT;
            boolean more = true;
            for (int way = 0; way < GRID_WAYS && more; way++) {
                least = Math.min(least, evening.together());
                more = toNextWay();
            }
            return least;
        }
    }

    private static final class Weeks {
        final int[] begin = new int[LAST_WEEK + 1];
        int first;
        int later;
        private final Evening evening;
        private final long[] aims = new long[LAST_WEEK + 1];

        Weeks(Evening evening) {
            this.evening = evening;
        }

        /** WEEKS up to one; behind a ROUND they are as they were a ROUND ago, and need no reckoning. */
        void run(int upTo) {
            first = NONE;
            later = NONE;
            for (int week = 0; week <= upTo && week <= LAST_WEEK; week++) {
                if (later > 0 && later <= week) {
                    begin[week] = begin[week - later];
                    continue;
                }
                if (week > 0) {
                    evening.goesToNextWeek();
                }
                keep(week);
            }
        }

        /** What the evening is in a WEEK, and whether it was so before. */
        private void keep(int week) {
            aims[week] = evening.aimsAsOne();
            begin[week] = evening.reckon();
            for (int before = 0; before < week; before++) {
                if (aims[before] == aims[week]) {
                    first = before;
                    later = week - before;
                    return;
                }
            }
        }
    }

    /**
     * Sums over all ways of ROADS, each way as often as it comes among ALL. Who has no LOT, or is not
     * there at all, comes in time sixteen times of sixteen, so that ALL is the same for any number of COMERS.
     */
    private static final class Roads {
        private static final int SIXTEENTHS = 16;
        private static final long ALL = 1L << 4 * COMERS;
        private final Company company;
        private final Evening evening;

        Roads(Company company, Evening evening) {
            this.company = company;
            this.evening = evening;
        }

        private long weight(int way) {
            long weight = 1;
            for (int comer = 0; comer < COMERS && weight > 0; comer++) {
                int lot = company.cost[LOT][comer];
                weight *= (way >> comer & 1) != 0 ? lot : SIXTEENTHS - lot;
            }
            return weight;
        }

        long begunBy(int minute) {
            long sum = 0;
            for (int way = 0; way < 1 << COMERS; way++) {
                long weight = weight(way);
                evening.late = way;
                if (weight > 0 && evening.reckon() <= minute) {
                    sum += weight;
                }
            }
            return sum;
        }

        long priceOf(int comer) {
            long sum = 0;
            for (int way = 0; way < 1 << COMERS; way++) {
                long weight = weight(way);
                if (weight > 0) {
                    evening.late = way;
                    int start = evening.reckon();
                    sum += weight * evening.price(comer, evening.when[comer], start);
                }
            }
            return sum;
        }

        /** A sum by ALL in lowest terms: what is above (what = 0), below. */
        long lowest(long sum, int what) {
            long above = sum;
            long below = ALL;
            for (int halved = 0; halved < 4 * COMERS && above % 2 == 0; halved++) {
                above /= 2;
                below /= 2;
            }
            return what == 0 ? above : below;
        }
    }

    /** Rows that are made once and used again: a new SHEET costs no new row. */
    private static final class Sheets {
        private static final int GONE = -1;
        final int[][] item = new int[SHEETS][ITEMS];
        final int[] form = new int[SHEETS];
        final int[] size = new int[SHEETS];
        int latest;

        Sheets() {
            for (int s = 0; s < SHEETS; s++) {
                form[s] = GONE;
            }
        }

        int finds(int finding) {
            latest = finding;
            return -10 - finding;
        }

        boolean isGone(int s) {
            return form[s] == GONE;
        }

        void lay(int s, int ofForm, int n) {
            form[s] = ofForm;
            size[s] = n;
            for (int i = 0; i < ITEMS; i++) {
                item[s][i] = 0;
            }
        }

        void drop(int s) {
            form[s] = GONE;
            size[s] = 0;
        }

        /** The FINDING that keeps from item i, treated as of a FORM; 0: none does. */
        int findingAt(int s, int asForm, int i) {
            if (isGone(s)) {
                return NULL;
            }
            if (form[s] != asForm) {
                return CAST;
            }
            return i < 0 || i >= size[s] || i >= ITEMS ? INDEX : 0;
        }

        boolean hasItems(int s, int from, int n) {
            return from >= 0 && from <= size[s] && n <= size[s] - from;
        }

        int lowest(int ofForm, int v) {
            if (ofForm == BYTES) {
                return (byte) v;
            }
            return ofForm == SHORTS ? (short) v : v;
        }
    }
}
