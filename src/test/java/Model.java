import java.util.ArrayList;
import java.util.Arrays;
import java.util.List;

/**
 * The document told over again in the slowest and most literal way: minute by minute, the text of
 * the rule looked at anew at each of them, nothing kept between two questions. It shares no code and
 * no short cut with HallMinutes, so that the two can be held against each other.
 */
final class Model {
    static final int LEAST_INT = Integer.MIN_VALUE;
    static final long BAD_LONG = Long.MIN_VALUE + 2;

    static final class One {
        int kind, aim, w, s, q;
        int wait = 1, late = 1, miss = 100, d = 5;

        One same() {
            One o = new One();
            o.kind = kind;
            o.aim = aim;
            o.w = w;
            o.s = s;
            o.q = q;
            o.wait = wait;
            o.late = late;
            o.miss = miss;
            o.d = d;
            return o;
        }
    }

    /** A whole state, copied whole whenever something is only tried. */
    static final class State {
        List<One> ones = new ArrayList<>();
        int told, fine, food;
        String text = "";

        State same() {
            State t = new State();
            for (One o : ones) {
                t.ones.add(o.same());
            }
            t.told = told;
            t.fine = fine;
            t.food = food;
            t.text = text;
            return t;
        }

        List<Integer> plain() {
            List<Integer> r = new ArrayList<>();
            for (int c = 0; c < ones.size(); c++) {
                if (ones.get(c).kind == 0) {
                    r.add(c);
                }
            }
            return r;
        }

        List<Integer> aims() {
            List<Integer> r = new ArrayList<>();
            for (int c : plain()) {
                r.add(ones.get(c).aim);
            }
            return r;
        }
    }

    State st = new State();
    int latest = 0;
    final int[][] sheet = new int[4][];
    final int[] form = new int[4];

    // ---- who comes when

    /** firm: for each comer its minute, or -1 for one that looks. */
    static int[] coming(State t, int[] firm) {
        int n = t.ones.size();
        int[] when = new int[n];
        Arrays.fill(when, 60);
        int[] due = firm.clone();
        for (int minute = 0; minute < 60; minute++) {
            for (int c = 0; c < n; c++) {
                if (due[c] == minute) {
                    when[c] = minute;
                }
            }
            for (int c = 0; c < n; c++) {
                if (due[c] != -1) {
                    continue;
                }
                int others = 0;
                for (int o = 0; o < n; o++) {
                    if (o != c && when[o] <= minute) {
                        others++;
                    }
                }
                if (others >= t.ones.get(c).s) {
                    due[c] = minute + t.ones.get(c).w;
                }
            }
        }
        return when;
    }

    static int[] firm(State t, int lateBits, int awayBits) {
        int[] firm = new int[t.ones.size()];
        for (int c = 0; c < firm.length; c++) {
            One o = t.ones.get(c);
            if ((awayBits & 1 << c) != 0) {
                firm[c] = 60;
            } else if (o.kind == 2) {
                firm[c] = -1;
            } else {
                int at = o.kind == 0 ? o.aim : t.told;
                if (at < 60 && (lateBits & 1 << c) != 0) {
                    at += o.d;
                }
                firm[c] = at > 59 ? 60 : at;
            }
        }
        return firm;
    }

    static int[] coming(State t) {
        return coming(t, firm(t, 0, 0));
    }

    static boolean holds(String condition, State t, int[] when, int minute) {
        int number = condition.length() > 1 ? Integer.parseInt(condition.substring(1)) : 0;
        switch (condition.charAt(0)) {
            case 'm':
                return minute >= number;
            case 'n':
                int there = 0;
                for (int w : when) {
                    if (w <= minute) {
                        there++;
                    }
                }
                return there >= number;
            case 'k':
                return number < when.length && when[number] <= minute;
            default:
                return minute >= t.told;
        }
    }

    static int begin(State t, int[] when) {
        if (faultOf(t.text) != -1) {
            return 60;
        }
        List<String[]> alternatives = new ArrayList<>();
        for (String alternative : t.text.split("\\|")) {
            alternatives.add(alternative.split("&"));
        }
        for (int minute = 0; minute < 60; minute++) {
            for (String[] conditions : alternatives) {
                boolean all = true;
                for (String condition : conditions) {
                    all = all && holds(condition, t, when, minute);
                }
                if (all) {
                    return minute;
                }
            }
        }
        return 60;
    }

    static int begin(State t) {
        return begin(t, coming(t));
    }

    /** A state machine over the bytes, one at a time. */
    static int faultOf(String text) {
        char letter = 0;
        int figures = 0;
        for (int p = 0; p <= text.length(); p++) {
            char b = p < text.length() ? text.charAt(p) : 0;
            boolean figure = p < text.length() && b >= '0' && b <= '9';
            boolean full = letter == 't' || letter == 'm' && figures == 2 || "nk".indexOf(letter) >= 0 && figures == 1;
            if (letter == 0) {
                if (p == text.length() || "mnkt".indexOf(b) < 0) {
                    return p;
                }
                letter = b;
                figures = 0;
            } else if (figure && !full) {
                figures++;
                int start = p - figures + 1;
                int value = Integer.parseInt(text.substring(start, p + 1));
                boolean may = letter == 'm' ? value <= 59 : letter == 'n' ? value >= 1 && value <= 8 : value <= 7;
                if (!may) {
                    return start;
                }
            } else if (letter != 't' && figures == 0) {
                return p;
            } else if (p == text.length()) {
                return -1;
            } else if (b == '&' || b == '|') {
                letter = 0;
            } else {
                return p;
            }
        }
        throw new IllegalStateException(text);
    }

    // ---- what it costs

    static int price(State t, int[] when, int begin, int c) {
        One o = t.ones.get(c);
        int at = when[c];
        if (at == 60) {
            return o.miss;
        }
        int sum = 0;
        if (at <= begin) {
            for (int m = at; m < begin; m++) {
                sum += o.wait;
            }
            if (begin != 60) {
                sum -= t.food;
            }
        } else {
            for (int m = begin; m < at; m++) {
                sum += o.late;
            }
        }
        if (at > t.told) {
            sum += t.fine;
        }
        return sum;
    }

    static int price(State t, int c) {
        int[] when = coming(t);
        return price(t, when, begin(t, when), c);
    }

    static int together(State t) {
        int[] when = coming(t);
        int begin = begin(t, when);
        int sum = 0;
        for (int c = 0; c < t.ones.size(); c++) {
            sum += price(t, when, begin, c);
        }
        return sum;
    }

    static int priceAt(State t, int c, int minute) {
        State other = t.same();
        other.ones.get(c).aim = minute;
        return price(other, c);
    }

    static int bestOf(State t, int c, boolean last) {
        int[] prices = new int[61];
        for (int m = 0; m <= 60; m++) {
            prices[m] = priceAt(t, c, m);
        }
        int least = Arrays.stream(prices).min().getAsInt();
        for (int i = 0; i <= 60; i++) {
            int m = last ? 60 - i : i;
            if (prices[m] == least) {
                return m;
            }
        }
        throw new IllegalStateException();
    }

    static State climbed(State t, boolean down) {
        State u = t.same();
        for (int c : u.plain()) {
            u.ones.get(c).aim = down ? 60 : 0;
        }
        for (int round = 1; round <= 20; round++) {
            List<Integer> before = u.aims();
            for (int c : u.plain()) {
                u.ones.get(c).aim = bestOf(u, c, down);
            }
            if (u.aims().equals(before)) {
                return u;
            }
        }
        return null;
    }

    // ---- grids

    static List<Integer> gridOf(int g) {
        List<Integer> r = new ArrayList<>();
        for (int m = 0; m < 60; m++) {
            if (m % g == 0) {
                r.add(m);
            }
        }
        r.add(60);
        return r;
    }

    static void ways(State t, List<Integer> left, List<Integer> grid, List<State> all) {
        if (left.isEmpty()) {
            all.add(t.same());
            return;
        }
        for (int m : grid) {
            t.ones.get(left.get(0)).aim = m;
            ways(t, left.subList(1, left.size()), grid, all);
        }
    }

    static List<State> allWays(State t, int g) {
        List<State> all = new ArrayList<>();
        State u = t.same();
        ways(u, u.plain(), gridOf(g), all);
        return all;
    }

    static List<State> restsOf(State t, int g) {
        List<State> rests = new ArrayList<>();
        for (State way : allWays(t, g)) {
            boolean rest = true;
            for (int c : way.plain()) {
                int price = price(way, c);
                for (int m : gridOf(g)) {
                    rest = rest && priceAt(way, c, m) >= price;
                }
            }
            if (rest) {
                rests.add(way);
            }
        }
        return rests;
    }

    // ---- weeks

    static List<State> weeksOf(State t, int last) {
        List<State> all = new ArrayList<>();
        all.add(t.same());
        for (int w = 1; w <= last; w++) {
            State before = all.get(w - 1);
            State u = before.same();
            for (int c : u.plain()) {
                u.ones.get(c).aim = bestOf(before, c, false);
            }
            all.add(u);
        }
        return all;
    }

    // ---- the face

    boolean isOne(int c) {
        return c >= 0 && c < st.ones.size();
    }

    boolean isPlain(int c) {
        return isOne(c) && st.ones.get(c).kind == 0;
    }

    int comer(int kind, int a, int b) {
        boolean may = kind == 0 && a >= 0 && a <= 60 && b == 0 || kind == 1 && a == 0 && b == 0
            || kind == 2 && a >= 1 && a <= 30 && b >= 1 && b <= 7;
        if (!may) {
            return -2;
        }
        if (st.ones.size() == 8) {
            return -4;
        }
        One o = new One();
        o.kind = kind;
        if (kind == 0) {
            o.aim = a;
        } else if (kind == 2) {
            o.w = a;
            o.s = b;
        }
        st.ones.add(o);
        return st.ones.size() - 1;
    }

    int aim(int c, int minute) {
        if (!isPlain(c) || minute < 0 || minute > 60) {
            return -2;
        }
        int was = st.ones.get(c).aim;
        st.ones.get(c).aim = minute;
        return was;
    }

    int finding(int number) {
        latest = number;
        return -10 - number;
    }

    int read(int s) {
        if (s < 0 || s > 3) {
            return -2;
        }
        if (sheet[s] == null) {
            return finding(1);
        }
        int i = 0;
        for (int c : st.plain()) {
            if (i == sheet[s].length || sheet[s][i] < 0 || sheet[s][i] > 60) {
                return i;
            }
            st.ones.get(c).aim = sheet[s][i++];
        }
        return i;
    }

    int cost(int c, int what, int v) {
        if (!isOne(c)) {
            return -2;
        }
        One o = st.ones.get(c);
        int was;
        switch (what) {
            case 0:
                if (v < 0 || v > 99) {
                    return -2;
                }
                was = o.wait;
                o.wait = v;
                return was;
            case 1:
                if (v < 0 || v > 99) {
                    return -2;
                }
                was = o.late;
                o.late = v;
                return was;
            case 2:
                if (v < 0 || v > 999) {
                    return -2;
                }
                was = o.miss;
                o.miss = v;
                return was;
            case 3:
                if (v < 0 || v > 15 || o.kind == 2) {
                    return -2;
                }
                was = o.q;
                o.q = v;
                return was;
            case 4:
                if (v < 1 || v > 30 || o.kind == 2) {
                    return -2;
                }
                was = o.d;
                o.d = v;
                return was;
            default:
                return -2;
        }
    }

    int set(int what, int v) {
        int was;
        if (what == 0 && v >= 0 && v <= 59) {
            was = st.told;
            st.told = v;
        } else if (what == 1 && v >= 0 && v <= 99) {
            was = st.fine;
            st.fine = v;
        } else if (what == 2 && v >= 0 && v <= 99) {
            was = st.food;
            st.food = v;
        } else {
            return -2;
        }
        return was;
    }

    int type(int b) {
        if (b < 0 || b > 255) {
            return -2;
        }
        if (st.text.length() == 40) {
            return -4;
        }
        st.text += (char) b;
        return st.text.length();
    }

    int wipe() {
        int had = st.text.length();
        st.text = "";
        return had;
    }

    int fault() {
        return faultOf(st.text);
    }

    int begins() {
        return begin(st);
    }

    int comes(int c) {
        return isOne(c) ? coming(st)[c] : -2;
    }

    int pays(int c) {
        return c == -1 ? together(st) : isOne(c) ? price(st, c) : -10000;
    }

    int best(int c, boolean last) {
        return isPlain(c) ? bestOf(st, c, last) : -2;
    }

    int restless() {
        for (int c : st.plain()) {
            for (int m = 0; m <= 60; m++) {
                if (priceAt(st, c, m) < price(st, c)) {
                    return c;
                }
            }
        }
        return -1;
    }

    int climb(boolean down, int c) {
        if (c != -1 && !isPlain(c)) {
            return -2;
        }
        State end = climbed(st, down);
        return end == null ? -1 : c == -1 ? begin(end) : end.ones.get(c).aim;
    }

    int rests(int g, int i, int c) {
        if (g < 5 || g > 30 || i < -1 || i == -1 && c != -1 || i != -1 && !isPlain(c)) {
            return -2;
        }
        if (st.plain().size() > 3) {
            return -4;
        }
        List<State> rests = restsOf(st, g);
        return i == -1 ? rests.size() : i >= rests.size() ? -1 : rests.get(i).ones.get(c).aim;
    }

    int lost(int g, int i) {
        if (g < 5 || g > 30 || i < -1) {
            return -10000;
        }
        if (st.plain().size() > 3) {
            return -10001;
        }
        int good = Integer.MAX_VALUE;
        for (State way : allWays(st, g)) {
            good = Math.min(good, together(way));
        }
        if (i == -1) {
            return good;
        }
        List<State> rests = restsOf(st, g);
        return i >= rests.size() ? -10002 : together(rests.get(i)) - good;
    }

    int week(int week) {
        return week < 0 || week > 60 ? -2 : begin(weeksOf(st, week).get(week));
    }

    int round(int what) {
        if (what < 0 || what > 1) {
            return -2;
        }
        List<State> all = weeksOf(st, 60);
        for (int f = 0; f <= 60; f++) {
            for (int l = f + 1; l <= 60; l++) {
                if (all.get(f).aims().equals(all.get(l).aims())) {
                    return what == 0 ? f : l - f;
                }
            }
        }
        return -1;
    }

    int moved(int wish) {
        if (wish < 0 || wish > 59) {
            return -2;
        }
        int[] far = new int[60];
        for (int told = 0; told < 60; told++) {
            State t = st.same();
            t.told = told;
            State end = climbed(t, false);
            far[told] = Math.abs((end == null ? 60 : begin(end)) - wish);
        }
        int least = Arrays.stream(far).min().getAsInt();
        for (int told = 0; ; told++) {
            if (far[told] == least) {
                return told;
            }
        }
    }

    static boolean downInTime(State t) {
        State end = climbed(t, true);
        return end != null && begin(end) <= t.told;
    }

    int least(boolean food) {
        for (int v = 0; v <= 40; v++) {
            State t = st.same();
            if (food) {
                t.food = v;
            } else {
                t.fine = v;
            }
            if (downInTime(t)) {
                return v;
            }
        }
        return -1;
    }

    int keys(int what) {
        if (what < 0 || what > 1) {
            return -2;
        }
        int[] when = coming(st);
        int begin = begin(st, when);
        int bits = 0;
        for (int c = 0; c < when.length; c++) {
            boolean is = what == 0
                ? begin < 60 && begin(st, coming(st, firm(st, 0, 1 << c))) == 60
                : begin < 60 && when[c] == begin;
            if (is) {
                bits += 1 << c;
            }
        }
        return bits;
    }

    int guests() {
        int fewest = 4;
        int answer = -1;
        for (int bits = 0; bits < 256; bits++) {
            int many = Integer.bitCount(bits);
            State t = st.same();
            boolean plain = true;
            for (int c = 0; c < 8; c++) {
                if ((bits & 1 << c) != 0) {
                    plain &= isPlain(c);
                    if (isPlain(c)) {
                        t.ones.get(c).kind = 1;
                    }
                }
            }
            if (plain && many < fewest && downInTime(t)) {
                fewest = many;
                answer = bits;
            }
        }
        return answer;
    }

    // ---- roads, by going from one comer to the next

    /** Over 16 to the power of comers: the odds (c = -1), or the mean of the cost of c. */
    static long sum(State t, int c, int minute, int at, int late, long weight) {
        if (weight == 0) {
            return 0;
        }
        if (at == t.ones.size()) {
            int[] when = coming(t, firm(t, late, 0));
            int begin = begin(t, when);
            return c == -1 ? (begin <= minute ? weight : 0) : weight * price(t, when, begin, c);
        }
        One o = t.ones.get(at);
        return sum(t, c, minute, at + 1, late, weight * (16 - o.q))
            + sum(t, c, minute, at + 1, late | 1 << at, weight * o.q);
    }

    static long gcd(long a, long b) {
        return b == 0 ? Math.abs(a) : gcd(b, a % b);
    }

    long fraction(long above, int what) {
        long below = 1;
        for (int c = 0; c < st.ones.size(); c++) {
            below *= 16;
        }
        long g = gcd(above, below);
        return what == 0 ? above / g : below / g;
    }

    long odds(int minute, int what) {
        if (minute < 0 || minute > 59 || what < 0 || what > 1) {
            return BAD_LONG;
        }
        return fraction(sum(st, -1, minute, 0, 0, 1), what);
    }

    long mean(int c, int what) {
        if (!isOne(c) || what < 0 || what > 1) {
            return BAD_LONG;
        }
        return fraction(sum(st, c, 0, 0, 0, 1), what);
    }

    int sure(int c) {
        if (!isPlain(c)) {
            return -2;
        }
        int best = -1;
        long least = 0;
        for (int m = 0; m <= 60; m++) {
            State t = st.same();
            t.ones.get(c).aim = m;
            long price = sum(t, c, 0, 0, 0, 1);
            if (best == -1 || price < least) {
                best = m;
                least = price;
            }
        }
        return best;
    }

    // ---- sheets

    int sheet(int s, int f, int n) {
        if (s < 0 || s > 3 || f < 0 || f > 2 || n > 64) {
            return -2;
        }
        if (n < 0) {
            return finding(5);
        }
        sheet[s] = new int[n];
        form[s] = f;
        return n;
    }

    int lose(int s) {
        if (s < 0 || s > 3) {
            return -2;
        }
        if (sheet[s] == null) {
            return finding(1);
        }
        int had = sheet[s].length;
        sheet[s] = null;
        return had;
    }

    int findingOf(int s, int f, int i) {
        return sheet[s] == null ? 1 : form[s] != f ? 3 : i < 0 || i >= sheet[s].length ? 2 : 0;
    }

    int put(int s, int f, int i, int v) {
        if (s < 0 || s > 3 || f < 0 || f > 2) {
            return -2;
        }
        int found = findingOf(s, f, i);
        if (found != 0) {
            return finding(found);
        }
        int bits = f == 0 ? 24 : f == 1 ? 16 : 0;
        sheet[s][i] = v << bits >> bits;
        return 1;
    }

    int get(int s, int f, int i) {
        if (s < 0 || s > 3 || f < 0 || f > 2) {
            return LEAST_INT;
        }
        int found = findingOf(s, f, i);
        if (found != 0) {
            finding(found);
            return LEAST_INT;
        }
        return sheet[s][i];
    }

    int copy(int s, int i, int t, int j, int n) {
        if (s < 0 || s > 3 || t < 0 || t > 3) {
            return -2;
        }
        if (sheet[s] == null || sheet[t] == null) {
            return finding(1);
        }
        if (form[s] != form[t]) {
            return finding(4);
        }
        if (i < 0 || j < 0 || n < 0 || (long) i + n > sheet[s].length || (long) j + n > sheet[t].length) {
            return finding(2);
        }
        int[] were = sheet[s].clone();
        for (int k = 0; k < n; k++) {
            sheet[t][j + k] = were[i + k];
        }
        return 1;
    }

    int write(int s) {
        if (s < 0 || s > 3) {
            return -2;
        }
        if (sheet[s] == null) {
            return finding(1);
        }
        int many = Math.min(61, sheet[s].length);
        List<State> all = weeksOf(st, 60);
        for (int w = 0; w < many; w++) {
            sheet[s][w] = begin(all.get(w));
        }
        return many;
    }

    int count(int what) {
        int sum = 0;
        switch (what) {
            case 0:
                return st.ones.size();
            case 1:
                for (int c : st.plain()) {
                    sum += 1 << c;
                }
                return sum;
            case 2:
                return st.told;
            case 3:
                return st.fine;
            case 4:
                return st.food;
            case 5:
                return st.text.length();
            case 6:
                for (int a : st.aims()) {
                    sum += a;
                }
                return sum;
            case 7:
                for (One o : st.ones) {
                    sum += o.q;
                }
                return sum;
            case 8:
                return latest;
            default:
                return -2;
        }
    }

    long digest() {
        List<Long> row = new ArrayList<>();
        for (int what = 0; what < 8; what++) {
            row.add((long) count(what));
        }
        row.add((long) fault());
        row.add((long) begins());
        for (int c = 0; c < st.ones.size(); c++) {
            row.add((long) comes(c));
            row.add((long) pays(c));
        }
        row.add((long) restless());
        row.add((long) climb(false, -1));
        row.add((long) climb(true, -1));
        row.add((long) week(1));
        row.add((long) week(2));
        row.add((long) keys(0));
        row.add((long) keys(1));
        row.add(odds(30, 0));
        long h = 17;
        for (long x : row) {
            h = 31 * h + x;
        }
        return h;
    }
}
