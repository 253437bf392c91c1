import java.util.Random;

/** Runs of calls by lot, the same ones every time, each answer held against the model's. */
public final class ModelRuns {
    private static int wrong = 0;
    private static int asked = 0;
    private static StringBuilder told = new StringBuilder();
    private static HallMinutes x;
    private static Model m;
    private static Random lot;

    private static void due(String call, long got, long want) {
        asked++;
        told.append(call).append(" = ").append(got).append("; ");
        if (got != want) {
            wrong++;
            System.out.println(call + " answered " + got + ", the model says " + want + " behind " + told);
        }
    }

    private static int from(int least, int most) {
        return least + lot.nextInt(most - least + 1);
    }

    /** Mostly what may be, now and then just beside it, or far off. */
    private static int near(int least, int most) {
        int way = lot.nextInt(24);
        if (way == 0) {
            return lot.nextBoolean() ? least - 1 : most + 1;
        }
        if (way == 1) {
            return lot.nextInt();
        }
        if (way < 5) {
            return lot.nextBoolean() ? least : most;
        }
        return from(least, most);
    }

    private static int minute() {
        int way = lot.nextInt(6);
        return way == 0 ? 60 : way == 1 ? 59 : way == 2 ? from(0, 3) : from(0, 59);
    }

    private static String condition() {
        switch (lot.nextInt(4)) {
            case 0:
                return "m" + from(0, 59);
            case 1:
                return "n" + from(1, Math.min(8, 1 + m.count(0)));
            case 2:
                return "k" + from(0, Math.min(7, m.count(0)));
            default:
                return "t";
        }
    }

    private static String rule() {
        StringBuilder text = new StringBuilder(condition());
        int more = lot.nextInt(6);
        for (int i = 0; i < more; i++) {
            text.append(lot.nextInt(3) == 0 ? '|' : '&').append(condition());
        }
        if (lot.nextInt(8) == 0) {
            int at = lot.nextInt(text.length());
            String any = "mnkt&|0123456789 M\u00ff\u0000";
            text.setCharAt(at, any.charAt(lot.nextInt(any.length())));
        }
        return text.toString();
    }

    private static void typeRule() {
        due("wipe()", x.wipe(), m.wipe());
        for (char b : rule().toCharArray()) {
            due("type(" + (int) b + ")", x.type(b), m.type(b));
            if (lot.nextInt(4) == 0) {
                due("fault()", x.fault(), m.fault());
            }
        }
        due("fault()", x.fault(), m.fault());
    }

    private static void newComer(int kind) {
        int a = kind == 0 ? minute() : kind == 1 ? 0 : lot.nextBoolean() ? from(1, 30) : from(1, 6);
        int b = kind != 2 ? 0 : lot.nextBoolean() ? from(1, 7) : from(1, 3);
        due("comer(" + kind + ", " + a + ", " + b + ")", x.comer(kind, a, b), m.comer(kind, a, b));
    }

    private static void giveCosts(boolean withRoads) {
        for (int c = 0; c < m.count(0); c++) {
            for (int what = 0; what < (withRoads ? 5 : 3); what++) {
                int most = what < 2 ? (lot.nextBoolean() ? 9 : 99) : what == 2 ? (lot.nextBoolean() ? 40 : 999) : what == 3 ? 15 : 30;
                int v = from(what == 4 ? 1 : 0, most);
                if (lot.nextInt(3) > 0) {
                    due("cost(" + c + ", " + what + ", " + v + ")", x.cost(c, what, v), m.cost(c, what, v));
                }
            }
        }
    }

    private static void setTerms() {
        for (int what = 0; what < 3; what++) {
            int v = what == 0 ? from(0, 59) : lot.nextInt(3) == 0 ? 0 : lot.nextBoolean() ? from(0, 9) : from(0, 99);
            due("set(" + what + ", " + v + ")", x.set(what, v), m.set(what, v));
        }
    }

    private static void strayCall() {
        int a = near(-1, 8), b = near(0, 4), c = near(0, 61);
        switch (lot.nextInt(7)) {
            case 0:
                due("aim(" + a + ", " + c + ")", x.aim(a, c), m.aim(a, c));
                break;
            case 1:
                due("cost(" + a + ", " + b + ", " + c + ")", x.cost(a, b, c), m.cost(a, b, c));
                break;
            case 2:
                due("set(" + b + ", " + c + ")", x.set(b, c), m.set(b, c));
                break;
            case 3:
                int kind = near(0, 2), d = near(0, 30), e = near(0, 7);
                due("comer(" + kind + ", " + d + ", " + e + ")", x.comer(kind, d, e), m.comer(kind, d, e));
                break;
            case 4:
                int t = near(0, 255);
                due("type(" + t + ")", x.type(t), m.type(t));
                break;
            case 5:
                int what = near(0, 8);
                due("count(" + what + ")", x.count(what), m.count(what));
                break;
            default:
                newComer(lot.nextInt(3));
                break;
        }
    }

    private static void sheetCall() {
        int s = near(0, 3), form = near(0, 2), i = near(0, 5);
        switch (lot.nextInt(8)) {
            case 0:
            case 1:
                int n = lot.nextInt(3) == 0 ? near(0, 64) : near(0, 6);
                due("sheet(" + s + ", " + form + ", " + n + ")", x.sheet(s, form, n), m.sheet(s, form, n));
                break;
            case 2:
                int v = lot.nextBoolean() ? lot.nextInt() : from(-1, 61);
                due("put(" + s + ", " + form + ", " + i + ", " + v + ")", x.put(s, form, i, v), m.put(s, form, i, v));
                break;
            case 3:
                due("get(" + s + ", " + form + ", " + i + ")", x.get(s, form, i), m.get(s, form, i));
                break;
            case 4:
                int t = near(0, 3), j = near(0, 5), k = near(0, 4);
                due("copy(" + s + ", " + i + ", " + t + ", " + j + ", " + k + ")", x.copy(s, i, t, j, k), m.copy(s, i, t, j, k));
                break;
            case 5:
                due("read(" + s + ")", x.read(s), m.read(s));
                break;
            case 6:
                due("write(" + s + ")", x.write(s), m.write(s));
                break;
            default:
                if (lot.nextInt(4) == 0) {
                    due("lose(" + s + ")", x.lose(s), m.lose(s));
                }
                break;
        }
        due("count(8)", x.count(8), m.count(8));
        for (s = 0; s < 4; s++) {
            for (i = 0; m.sheet[s] != null && i < m.sheet[s].length; i++) {
                due("get(" + s + ", " + m.form[s] + ", " + i + ")", x.get(s, m.form[s], i), m.get(s, m.form[s], i));
            }
        }
    }

    private static void question() {
        int c = near(0, Math.max(0, m.count(0) - 1)), what = near(0, 1), minute = near(0, 59);
        boolean either = lot.nextBoolean();
        due("begins()", x.begins(), m.begins());
        due("comes(" + c + ")", x.comes(c), m.comes(c));
        due("pays(" + c + ")", x.pays(c), m.pays(c));
        due("pays(-1)", x.pays(-1), m.pays(-1));
        due("best(" + c + ", " + either + ")", x.best(c, either), m.best(c, either));
        due("restless()", x.restless(), m.restless());
        due("keys(" + what + ")", x.keys(what), m.keys(what));
        int week = near(0, 60);
        due("climb(" + either + ", " + c + ")", x.climb(either, c), m.climb(either, c));
        due("climb(" + either + ", -1)", x.climb(either, -1), m.climb(either, -1));
        due("week(" + week + ")", x.week(week), m.week(week));
        due("round(" + what + ")", x.round(what), m.round(what));
        due("odds(" + minute + ", " + what + ")", x.odds(minute, what), m.odds(minute, what));
        due("mean(" + c + ", " + what + ")", x.mean(c, what), m.mean(c, what));
    }

    private static void gridQuestion() {
        int c = near(0, Math.max(0, m.count(0) - 1));
        int g = lot.nextInt(4) == 0 ? near(5, 30) : near(9, 30);
        int i = near(-1, 4);
        int j = lot.nextInt(3) == 0 ? near(0, 60) : near(0, 3);
        due("rests(" + g + ", -1, -1)", x.rests(g, -1, -1), m.rests(g, -1, -1));
        due("rests(" + g + ", " + j + ", " + c + ")", x.rests(g, j, c), m.rests(g, j, c));
        due("rests(" + g + ", " + i + ", " + c + ")", x.rests(g, i, c), m.rests(g, i, c));
        due("lost(" + g + ", " + i + ")", x.lost(g, i), m.lost(g, i));
    }

    private static void dearQuestion() {
        int c = near(0, Math.max(0, m.count(0) - 1));
        switch (lot.nextInt(5)) {
            case 0:
                int wish = near(0, 59);
                due("moved(" + wish + ")", x.moved(wish), m.moved(wish));
                break;
            case 1:
                boolean food = lot.nextBoolean();
                due("least(" + food + ")", x.least(food), m.least(food));
                break;
            case 2:
                due("guests()", x.guests(), m.guests());
                break;
            case 3:
                due("sure(" + c + ")", x.sure(c), m.sure(c));
                break;
            default:
                due("digest()", x.digest(), m.digest());
                break;
        }
    }

    private static void fresh() {
        x = new HallMinutes();
        m = new Model();
        told = new StringBuilder();
    }

    private static void run(int plain, int others, boolean withRoads, boolean dear) {
        fresh();
        for (int i = plain + others, p = plain; i > 0; i--) {
            boolean isPlain = lot.nextInt(i) < p;
            newComer(isPlain ? 0 : from(1, 2));
            p -= isPlain ? 1 : 0;
        }
        giveCosts(withRoads);
        setTerms();
        typeRule();
        for (int i = 0; i < 3; i++) {
            question();
            if (plain <= 3 && dear) {
                gridQuestion();
            }
            if (dear) {
                dearQuestion();
            }
            strayCall();
            if (lot.nextInt(3) == 0) {
                typeRule();
            }
        }
    }

    public static void main(String[] args) {
        int many = args.length > 0 ? Integer.parseInt(args[0]) : 60;
        lot = new Random(args.length > 1 ? Long.parseLong(args[1]) : 59);
        for (int i = 0; i < many; i++) {
            fresh();
            for (int k = 0; k < 200; k++) {
                strayCall();
                sheetCall();
            }
        }
        for (int i = 0; i < many * 4; i++) {
            int plain = from(0, 3);
            run(plain, from(0, 8 - plain), lot.nextInt(3) == 0, true);
        }
        for (int i = 0; i < many * 2; i++) {
            int plain = from(2, 8);
            run(plain, from(0, 8 - plain), false, lot.nextInt(4) == 0);
        }
        for (int i = 0; i < many; i++) {
            int plain = from(0, 6);
            run(plain, from(0, 8 - plain), true, false);
        }
        System.out.println(asked + " answers held against the model's, " + wrong + " unlike");
        if (wrong != 0) {
            System.exit(1);
        }
    }
}
