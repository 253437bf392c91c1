/** The promises of the document, one after the other, with answers reckoned by hand. */
public final class PromiseRuns {
    private static final int LEAST_INT = Integer.MIN_VALUE;
    private static final long BAD_LONG = Long.MIN_VALUE + 2;
    private static int wrong = 0;
    private static int asked = 0;

    private static void due(String what, long got, long want) {
        asked++;
        if (got != want) {
            wrong++;
            System.out.println(what + " answered " + got + ", due is " + want);
        }
    }

    private static void rule(HallMinutes x, String text) {
        x.wipe();
        for (int i = 0; i < text.length(); i++) {
            due("type of " + text, x.type(text.charAt(i)), i + 1);
        }
    }

    private static HallMinutes hall(String text, int told, int... aims) {
        HallMinutes x = new HallMinutes();
        for (int i = 0; i < aims.length; i++) {
            due("comer at " + aims[i], x.comer(0, aims[i], 0), i);
        }
        x.set(0, told);
        rule(x, text);
        return x;
    }

    /** One that looks for the first to come, a minute behind it, and two that leap over each other. */
    private static HallMinutes leaping(String text, int told) {
        HallMinutes x = new HallMinutes();
        x.comer(2, 1, 1);
        x.comer(0, 0, 0);
        x.comer(0, 0, 0);
        x.set(0, told);
        rule(x, text);
        return x;
    }

    private static void newObject() {
        HallMinutes x = new HallMinutes();
        for (int what = 0; what <= 8; what++) {
            due("1 count(" + what + ")", x.count(what), 0);
        }
        due("1 fault", x.fault(), 0);
        due("1 begins", x.begins(), 60);
        due("1 pays(-1)", x.pays(-1), 0);
        due("1 restless", x.restless(), -1);
        due("1 climb", x.climb(true, -1), 60);
        due("1 least", x.least(false), -1);
        due("1 guests", x.guests(), -1);
        due("1 moved", x.moved(30), 0);
        due("1 round f", x.round(0), 0);
        due("1 round", x.round(1), 1);
        due("1 odds below", x.odds(59, 1), 1);
        for (int s = 0; s < 4; s++) {
            due("1 lose(" + s + ")", x.lose(s), -11);
        }
        due("1 NONE", HallMinutes.NONE, -1);
        due("1 BAD", HallMinutes.BAD, -2);
        due("1 NOT", HallMinutes.NOT, -3);
        due("1 FULL", HallMinutes.FULL, -4);
    }

    private static void comer() {
        HallMinutes x = new HallMinutes();
        int[][] bad = {{0, -1, 0}, {0, 61, 0}, {0, 5, 1}, {0, 5, -1}, {1, 1, 0}, {1, 0, 1}, {1, -1, 0}, {2, 0, 1}, {2, 31, 1},
            {2, 1, 0}, {2, 1, 8}, {3, 0, 0}, {-1, 0, 0}, {LEAST_INT, 0, 0}};
        for (int[] b : bad) {
            due("2 comer " + b[0] + " " + b[1] + " " + b[2], x.comer(b[0], b[1], b[2]), -2);
        }
        due("2 none yet", x.count(0), 0);
        int[][] good = {{0, 0, 0}, {0, 60, 0}, {1, 0, 0}, {2, 1, 1}, {2, 30, 7}, {0, 59, 0}, {1, 0, 0}, {0, 7, 0}};
        for (int i = 0; i < 8; i++) {
            due("2 comer " + i, x.comer(good[i][0], good[i][1], good[i][2]), i);
        }
        due("2 ninth", x.comer(0, 0, 0), -4);
        due("2 bad ahead of full", x.comer(0, 61, 0), -2);
        due("2 number", x.count(0), 8);
        due("2 aims", x.count(6), 60 + 59 + 7);
        due("2 comes", x.comes(1), 60);
        due("2 comes", x.comes(3), 1);
    }

    private static void aim() {
        HallMinutes x = hall("k0", 4, 10);
        x.comer(1, 0, 0);
        x.comer(2, 1, 1);
        due("3 aim", x.aim(0, 0), 10);
        due("3 aim", x.aim(0, 60), 0);
        due("3 aim", x.aim(0, 59), 60);
        int[][] bad = {{0, -1}, {0, 61}, {1, 5}, {2, 5}, {3, 5}, {-1, 5}, {8, 5}, {LEAST_INT, 5}, {Integer.MAX_VALUE, 5}};
        for (int[] b : bad) {
            due("3 aim " + b[0] + " " + b[1], x.aim(b[0], b[1]), -2);
        }
        due("3 it begins", x.begins(), 59);
        due("3 aims", x.count(6), 59);
    }

    private static void read() {
        HallMinutes x = hall("n1", 0, 1, 2);
        x.comer(1, 0, 0);
        x.comer(0, 3, 0);
        due("4 no such sheet", x.read(4), -2);
        due("4 no such sheet", x.read(-1), -2);
        due("4 lost", x.read(0), -11);
        due("4 finding", x.count(8), 1);
        x.sheet(0, 2, 4);
        x.put(0, 2, 0, 60);
        x.put(0, 2, 1, 20);
        x.put(0, 2, 2, 30);
        x.put(0, 2, 3, 40);
        due("4 as many as are plain", x.read(0), 3);
        due("4 first", x.aim(0, 1), 60);
        due("4 second", x.aim(1, 2), 20);
        due("4 third, past the punctual one", x.aim(3, 3), 30);
        x.put(0, 2, 1, 61);
        due("4 till one that may not be", x.read(0), 1);
        due("4 aims", x.count(6), 60 + 2 + 3);
        x.put(0, 2, 0, -1);
        due("4 none may be", x.read(0), 0);
        x.sheet(1, 0, 2);
        due("4 as many as there are items", x.read(1), 2);
        due("4 aims", x.count(6), 3);
        x.sheet(1, 0, 0);
        due("4 an empty one", x.read(1), 0);
    }

    private static void cost() {
        HallMinutes x = hall("m10", 20, 5);
        x.comer(2, 1, 1);
        int[] first = {1, 1, 100, 0, 5};
        int[] least = {0, 0, 0, 0, 1};
        int[] most = {99, 99, 999, 15, 30};
        for (int what = 0; what < 5; what++) {
            due("5 below", x.cost(0, what, least[what] - 1), -2);
            due("5 above", x.cost(0, what, most[what] + 1), -2);
            due("5 at first", x.cost(0, what, least[what]), first[what]);
            due("5 least", x.cost(0, what, most[what]), least[what]);
            due("5 most", x.cost(0, what, first[what]), most[what]);
            due("5 looking", x.cost(1, what, least[what]), what < 3 ? first[what] : -2);
        }
        due("5 what", x.cost(0, 5, 1), -2);
        due("5 what", x.cost(0, -1, 1), -2);
        due("5 comer", x.cost(2, 0, 1), -2);
        due("5 comer", x.cost(-1, 0, 1), -2);
        x.cost(0, 0, 7);
        due("5 wait", x.pays(0), 35);
        x.cost(0, 1, 3);
        x.aim(0, 12);
        due("5 late", x.pays(0), 6);
        x.cost(0, 2, 999);
        x.aim(0, 60);
        due("5 miss", x.pays(0), 999);
    }

    private static void set() {
        HallMinutes x = new HallMinutes();
        int[] most = {59, 99, 99};
        for (int what = 0; what < 3; what++) {
            due("6 at first", x.set(what, most[what]), 0);
            due("6 below", x.set(what, -1), -2);
            due("6 above", x.set(what, most[what] + 1), -2);
            due("6 what it was", x.set(what, 3 + what), most[what]);
            due("6 count", x.count(2 + what), 3 + what);
        }
        due("6 what", x.set(3, 0), -2);
        due("6 what", x.set(-1, 0), -2);
    }

    private static void typeAndWipe() {
        HallMinutes x = new HallMinutes();
        due("7 below", x.type(-1), -2);
        due("7 above", x.type(256), -2);
        due("8 empty", x.wipe(), 0);
        for (int i = 1; i <= 40; i++) {
            due("7 byte", x.type(i % 2 == 0 ? 255 : 0), i);
        }
        due("7 full", x.type('t'), -4);
        due("7 bad ahead of full", x.type(256), -2);
        due("7 bytes", x.count(5), 40);
        due("8 wipe", x.wipe(), 40);
        due("8 wiped", x.count(5), 0);
        due("8 fault", x.fault(), 0);
        due("8 again", x.wipe(), 0);
        rule(x, "m5");
        due("8 a good rule", x.begins(), 5);
        due("8 wipe", x.wipe(), 2);
        due("8 nothing is left of it", x.begins(), 60);
        due("8 nothing is left of it", x.fault(), 0);
        rule(x, "k7|k7|k7|k7|k7|k7|k7|k7|k7|k7|k7|k7|m31");
        due("7 the last of many", x.begins(), 31);
        rule(x, "m9|m8|m7|m6|m5|m4|m3|m2|m1|m1&t|k0|k1|m0");
        due("7 forty bytes", x.count(5), 40);
        due("7 the last of forty bytes", x.fault(), -1);
        due("7 the last of forty bytes", x.begins(), 0);
        rule(x, "t|t|t|t|t|t|t|t|t|t|t|t|t|t|t|t|t|t|t|t|");
        due("7 twenty alternatives and one begun", x.fault(), 40);
        due("7 twenty alternatives and one begun", x.begins(), 60);
        x.set(0, 9);
        rule(x, "t|t|t|t|t|t|t|t|t|t|t|t|t|t|t|t|t|t|t|m5");
        due("7 twenty alternatives", x.fault(), -1);
        due("7 twenty alternatives", x.begins(), 5);
    }

    private static void fault() {
        String[] texts = {"", "m", "m0", "m00", "m05", "m59", "m6", "m60", "m99", "m600", "m123", "m1x", "mx", "n", "n0", "n1", "n8", "n9",
            "n10", "n91", "k", "k0", "k7", "k8", "k70", "t", "tt", "t1", "t&", "t|", "t&&t", "t|&t", "&t", "|", "t&t|t&t", "t +", " t",
            "T", "m1&n2&k3&t|m2", "m1&n2&k3&t|m", "m1&n2&k3&t|m2|n9", "m 1", "m1 ", "t\u0000", "t&m60|x", "x", "1", "k/", "k:", "m5/", "m5:"};
        int[] faults = {0, 1, -1, -1, -1, -1, -1, 1, 1, 1, 3, 2, 1, 1, 1, -1, -1, 1,
            2, 1, 1, -1, -1, 1, 2, -1, 1, 1, 2, 2, 2, 2, 0, 0, -1, 1, 0,
            0, -1, 12, 15, 1, 2, 1, 3, 0, 0, 1, 1, 2, 2};
        due("9 as many", texts.length, faults.length);
        for (int i = 0; i < texts.length; i++) {
            HallMinutes x = new HallMinutes();
            rule(x, texts[i]);
            due("9 fault of '" + texts[i] + "'", x.fault(), faults[i]);
            if (faults[i] != -1) {
                due("9 '" + texts[i] + "' never begins", x.begins(), 60);
            }
        }
    }

    private static void begins() {
        HallMinutes x = hall("t", 17, 5, 10, 10, 60);
        due("10 told", x.begins(), 17);
        String[] texts = {"m0", "m59", "m7", "n1", "n2", "n3", "n4", "k0", "k1", "k3", "k4", "k7", "t&n3", "t&m20", "m3&m8", "n1&n2",
            "k0&k2", "k0|k2", "t|n1", "k3|m40", "k3&m4|k4|n4", "n1&m6|n2&m3", "t&", "n9|t"};
        int[] want = {0, 59, 7, 5, 10, 10, 60, 5, 10, 60, 60, 60, 17, 20, 8, 10,
            10, 5, 5, 40, 60, 6, 60, 60};
        for (int i = 0; i < texts.length; i++) {
            rule(x, texts[i]);
            due("10 begins by " + texts[i], x.begins(), want[i]);
        }
        HallMinutes all = hall("n8", 0, 59, 59, 59, 59, 59, 59, 59, 59);
        due("10 all eight at the last minute", all.begins(), 59);
        all.aim(7, 60);
        due("10 one is never there", all.begins(), 60);
    }

    private static void comes() {
        HallMinutes x = hall("t", 12, 29, 60);
        x.comer(1, 0, 0);
        x.comer(2, 30, 2);
        x.comer(2, 5, 1);
        x.comer(2, 1, 3);
        due("11 plain", x.comes(0), 29);
        due("11 never", x.comes(1), 60);
        due("11 punctual", x.comes(2), 12);
        due("11 looking for the first", x.comes(4), 17);
        due("11 looking for a looking one", x.comes(3), 47);
        due("11 behind the third", x.comes(5), 30);
        x.set(0, 24);
        due("11 at the last minute", x.comes(3), 59);
        x.set(0, 25);
        due("11 the plain one is the second now", x.comes(3), 59);
        x.aim(0, 60);
        due("11 thirty behind thirty", x.comes(3), 60);
        due("11 no such", x.comes(6), -2);
        due("11 no such", x.comes(-1), -2);
        due("11 no such", x.comes(8), -2);
        HallMinutes y = new HallMinutes();
        y.comer(2, 1, 1);
        y.comer(2, 1, 1);
        due("11 each looks for the other", y.comes(0), 60);
        y.comer(0, 3, 0);
        y.comer(2, 4, 2);
        y.comer(2, 2, 7);
        due("11 both see the third", y.comes(0), 4);
        due("11 both see the third", y.comes(1), 4);
        due("11 it sees two at once", y.comes(3), 8);
        due("11 too few", y.comes(4), 60);
        y.comer(1, 0, 0);
        y.set(0, 3);
        due("11 two at the same minute", y.comes(3), 7);
    }

    private static void pays() {
        HallMinutes x = hall("m20", 15, 10, 20, 25, 60);
        x.cost(0, 0, 2);
        x.cost(2, 1, 3);
        x.cost(3, 2, 50);
        due("12 waits", x.pays(0), 20);
        due("12 just then", x.pays(1), 0);
        due("12 late", x.pays(2), 15);
        due("12 misses", x.pays(3), 50);
        due("12 together", x.pays(-1), 85);
        x.set(1, 7);
        due("12 no fine by told", x.pays(0), 20);
        due("12 fine behind told", x.pays(1), 7);
        due("12 fine and late", x.pays(2), 22);
        due("12 no fine at 60", x.pays(3), 50);
        x.set(0, 20);
        due("12 no fine at told", x.pays(1), 0);
        x.set(2, 30);
        due("12 food for who waits", x.pays(0), -10);
        due("12 food for who comes just then", x.pays(1), -30);
        due("12 no food for who is late", x.pays(2), 22);
        due("12 no food at 60", x.pays(3), 50);
        due("12 together", x.pays(-1), -10 - 30 + 22 + 50);
        rule(x, "k7");
        due("12 waits for what never begins, without food", x.pays(0), 100);
        due("12 and pays the fine", x.pays(2), 35 + 7);
        due("12 no such", x.pays(4), -10000);
        due("12 no such", x.pays(-2), -10000);
        due("12 no such", x.pays(8), -10000);
        due("12 nobody", hall("t", 0).pays(-1), 0);
    }

    private static void best() {
        HallMinutes x = hall("n2", 0, 20, 30);
        x.comer(1, 0, 0);
        x.aim(1, 30);
        rule(x, "n3");
        due("13 first", x.best(0, false), 30);
        due("13 last", x.best(0, true), 59);
        x.cost(0, 2, 0);
        due("13 60 is as good", x.best(0, true), 60);
        due("13 and not the first", x.best(0, false), 30);
        x.cost(0, 2, 100);
        x.set(0, 10);
        x.set(1, 3);
        due("13 a small fine", x.best(0, false), 30);
        x.set(1, 99);
        due("13 a great fine", x.best(0, false), 10);
        due("13 a great fine", x.best(0, true), 10);
        x.cost(0, 2, 20);
        due("13 as dear as missing, first", x.best(0, false), 10);
        due("13 as dear as missing, last", x.best(0, true), 60);
        x.cost(0, 2, 19);
        due("13 missing is cheaper", x.best(0, false), 60);
        due("13 punctual", x.best(2, false), -2);
        due("13 no such", x.best(3, false), -2);
        due("13 no such", x.best(-1, true), -2);
        due("13 aims stay", x.count(6), 50);
        HallMinutes y = leaping("k0", 0);
        y.aim(1, 30);
        y.aim(2, 8);
        due("13 looking ones look anew", y.best(1, false), 9);
        due("13 looking one", y.best(0, false), -2);
    }

    private static void restless() {
        HallMinutes x = hall("n2", 0, 20, 30);
        due("14 waits for nothing", x.restless(), 0);
        x.aim(0, 30);
        due("14 at rest", x.restless(), -1);
        x.aim(0, 40);
        due("14 the second waits", x.restless(), 1);
        HallMinutes y = new HallMinutes();
        y.comer(1, 0, 0);
        y.comer(0, 5, 0);
        rule(y, "k0");
        due("14 who is not plain has no rest to lose", y.restless(), 1);
        y.cost(1, 1, 0);
        due("14 no less elsewhere", y.restless(), -1);
        y.cost(1, 1, 1);
        y.cost(1, 2, 4);
        y.set(1, 3);
        y.aim(1, 60);
        due("14 at 60, too", y.restless(), 1);
    }

    private static void climb() {
        HallMinutes x = hall("n2", 20, 7, 8);
        due("15 up", x.climb(false, -1), 0);
        due("15 down", x.climb(true, -1), 59);
        due("15 down, aim", x.climb(true, 1), 59);
        due("15 aims are as they were", x.count(6), 15);
        x.comer(1, 0, 0);
        due("15 punctual", x.climb(true, 2), -2);
        due("15 no such", x.climb(true, 3), -2);
        due("15 no such", x.climb(false, -2), -2);
        HallMinutes y = leaping("t|k0", 37);
        due("15 at rest in the 20th round", y.climb(false, -1), 37);
        due("15 aim", y.climb(false, 1), 37);
        due("15 aim", y.climb(false, 2), 37);
        y.set(0, 38);
        due("15 the 20th round changes something", y.climb(false, -1), -1);
        due("15 no aim", y.climb(false, 1), -1);
        due("15 bad ahead of that", y.climb(false, 0), -2);
        due("15 down it rests at once", y.climb(true, -1), 38);
        HallMinutes z = hall("k0", 30, 3, 4);
        due("15 who comes next knows of who went first", z.climb(true, 1), 59);
        z.cost(0, 2, 0);
        due("15 never", z.climb(true, -1), 60);
        due("15 none is plain", hall("t", 9).climb(true, -1), 9);
    }

    private static void rests() {
        HallMinutes x = hall("n2", 0, 1, 2);
        due("16 two", x.rests(30, -1, -1), 2);
        due("16 second", x.rests(30, 1, 0), 30);
        due("16 second", x.rests(30, 1, 1), 30);
        due("16 no third", x.rests(30, 2, 0), -1);
        x.cost(0, 2, 20);
        x.cost(1, 2, 20);
        due("16 all stay away", x.rests(30, -1, -1), 3);
        due("16 all stay away", x.rests(30, 2, 1), 60);
        due("16 no fourth", x.rests(30, 3, 1), -1);
        due("16 none so far", x.rests(30, Integer.MAX_VALUE, 1), -1);
        HallMinutes y = new HallMinutes();
        y.comer(1, 0, 0);
        y.comer(0, 1, 0);
        y.comer(2, 1, 1);
        y.comer(0, 1, 0);
        rule(y, "m30");
        y.cost(1, 2, 0);
        y.cost(3, 2, 0);
        int[][] want = {{30, 30}, {30, 60}, {60, 30}, {60, 60}};
        due("16 four", y.rests(30, -1, -1), 4);
        for (int i = 0; i < 4; i++) {
            due("16 first of " + i, y.rests(30, i, 1), want[i][0]);
            due("16 second of " + i, y.rests(30, i, 3), want[i][1]);
        }
        int[][] bad = {{4, -1, -1}, {31, -1, -1}, {30, -1, 1}, {30, 0, -1}, {30, -2, 1}, {30, -2, -1}, {30, 0, 0}, {30, 0, 2},
            {30, 0, 4}, {30, 0, -2}, {0, -1, -1}, {-30, -1, -1}};
        for (int[] b : bad) {
            due("16 rests " + b[0] + " " + b[1] + " " + b[2], y.rests(b[0], b[1], b[2]), -2);
        }
        due("16 aims are as they were", y.count(6), 2);
        HallMinutes z = hall("k0", 0, 1);
        int[][] grids = {{5, 12, 55}, {7, 9, 56}, {29, 3, 58}, {30, 2, 30}, {20, 3, 40}, {12, 5, 48}};
        for (int[] g : grids) {
            due("16 grid of " + g[0], z.rests(g[0], -1, -1), g[1]);
            due("16 last of " + g[0], z.rests(g[0], g[1] - 1, 0), g[2]);
            due("16 behind it", z.rests(g[0], g[1], 0), -1);
        }
        z.comer(0, 1, 0);
        z.comer(0, 1, 0);
        due("16 three plain ones", z.rests(30, -1, -1), 2);
        z.comer(0, 1, 0);
        due("16 four plain ones", z.rests(30, -1, -1), -4);
        due("16 four plain ones", z.rests(30, 0, 0), -4);
        due("16 bad ahead of full", z.rests(30, 0, -1), -2);
        due("16 nobody: one way, and it rests", hall("t", 0).rests(30, -1, -1), 1);
        HallMinutes u = hall("m20", 0, 1, 1);
        due("16 a fine grid", u.rests(5, -1, -1), 1);
        due("16 a fine grid", u.rests(5, 0, 1), 20);
        due("16 a coarse one behind it", u.rests(30, 0, 1), 30);
        rule(u, "m0");
        u.cost(0, 2, 0);
        due("16 the first may stay away", u.rests(30, -1, -1), 2);
        due("16 the first stays away", u.rests(30, 1, 0), 60);
        due("16 and the second comes at 0", u.rests(30, 1, 1), 0);
        HallMinutes far = new HallMinutes();
        for (int c = 0; c < 5; c++) {
            far.comer(1, 0, 0);
        }
        for (int c = 5; c < 8; c++) {
            far.comer(0, 3, 0);
            far.cost(c, 2, 0);
        }
        due("16 the very last of all ways", far.rests(5, -1, -1), 1);
        due("16 the very last of all ways", far.rests(5, 0, 7), 60);
        due("17 good is the very last of all ways", far.lost(5, -1), 5 * 60);
        due("17 three plain ones", far.lost(5, 0), 0);
    }

    private static void lost() {
        HallMinutes x = hall("k0", 30, 7);
        x.comer(1, 0, 0);
        due("17 good", x.lost(30, -1), 0);
        due("17 the punctual one is late", x.lost(30, 0), 30);
        due("17 as good as can be", x.lost(30, 1), 0);
        due("17 no third", x.lost(30, 2), -10002);
        x.set(2, 5);
        due("17 good with food", x.lost(30, -1), -10);
        due("17 with food", x.lost(30, 0), 35);
        due("17 step", x.lost(4, -1), -10000);
        due("17 step", x.lost(31, 0), -10000);
        due("17 i", x.lost(30, -2), -10000);
        due("17 aims are as they were", x.count(6), 7);
        x.set(0, 0);
        x.set(2, 0);
        due("17 good lies ahead of that rest", x.lost(30, 1), 30);
        HallMinutes y = hall("t", 0, 1, 1, 1, 1);
        due("17 full", y.lost(30, -1), -10001);
        due("17 full ahead of not", y.lost(30, 9999), -10001);
        due("17 bad ahead of full", y.lost(4, -1), -10000);
    }

    private static void week() {
        HallMinutes x = hall("k0", 0, 10, 20);
        int[] begin = {10, 0, 0, 0};
        for (int w = 0; w < 4; w++) {
            due("18 week " + w, x.week(w), begin[w]);
        }
        due("18 week 60", x.week(60), 0);
        due("18 below", x.week(-1), -2);
        due("18 above", x.week(61), -2);
        due("18 aims are as they were", x.count(6), 30);
        HallMinutes y = leaping("k0&k1", 0);
        for (int w = 0; w <= 58; w++) {
            due("18 leaping, week " + w, y.week(w), w + 1);
        }
        due("18 leaping, week 59", y.week(59), 60);
        due("18 leaping, week 60", y.week(60), 1);
    }

    private static void round() {
        HallMinutes x = hall("k0", 0, 10, 20);
        due("19 all at once", x.round(0), 2);
        due("19 all at once", x.round(1), 1);
        HallMinutes y = hall("n2", 0, 10, 20);
        due("19 they change places", y.round(0), 0);
        due("19 they change places", y.round(1), 2);
        HallMinutes z = leaping("t|k0", 59);
        due("19 at the very end", z.round(0), 59);
        due("19 at the very end", z.round(1), 1);
        HallMinutes never = leaping("k0&k1", 0);
        due("19 none", never.round(0), -1);
        due("19 none", never.round(1), -1);
        due("19 what", never.round(2), -2);
        due("19 what", never.round(-1), -2);
        HallMinutes alone = hall("m20", 0, 5);
        due("19 only the first changes", alone.round(0), 1);
        due("19 only the first changes", alone.round(1), 1);
        due("19 aims are as they were", never.count(6), 0);
    }

    private static void moved() {
        HallMinutes x = hall("t&m30", 7, 1);
        due("20 the least of like ones", x.moved(10), 0);
        due("20 just so", x.moved(30), 0);
        due("20 later", x.moved(45), 45);
        due("20 at once", x.moved(0), 0);
        due("20 last", x.moved(59), 59);
        due("20 below", x.moved(-1), -2);
        due("20 above", x.moved(60), -2);
        due("20 told is as it was", x.count(2), 7);
        HallMinutes y = hall("k0&m40", 0, 1);
        y.cost(0, 2, 5);
        y.set(1, 9);
        due("20 never is 60", y.moved(51), 0);
        due("20 as far as never", y.moved(50), 0);
        due("20 nearer than never", y.moved(49), 35);
        HallMinutes z = leaping("t|k0", 0);
        due("20 nearer than no rest", z.moved(48), 37);
        due("20 no rest is 60", z.moved(49), 38);
    }

    private static void least() {
        HallMinutes x = hall("n2", 20, 1, 2);
        x.set(1, 77);
        due("21 the greatest that is tried", x.least(false), 40);
        due("21 the fine is as it was", x.count(3), 77);
        x.set(0, 19);
        due("21 beyond it", x.least(false), -1);
        x.set(0, 59);
        due("21 none is needed", x.least(false), 0);
        HallMinutes y = new HallMinutes();
        y.comer(0, 0, 0);
        y.comer(2, 20, 1);
        y.set(0, 59);
        y.cost(0, 2, 0);
        rule(y, "k1");
        due("21 food for waiting", y.least(true), 21);
        y.cost(0, 0, 2);
        due("21 not enough", y.least(true), -1);
        y.cost(0, 2, 1);
        due("21 the greatest that is tried", y.least(true), 40);
        y.set(2, 99);
        due("21 food, not what there is now", y.least(true), 40);
        due("21 the food is as it was", y.count(4), 99);
        due("21 with that food no fine is needed", y.least(false), 0);
        y.set(2, 0);
        due("21 no fine helps", y.least(false), -1);
        HallMinutes z = hall("k0", 8, 42);
        z.cost(0, 2, 0);
        z.set(1, 26);
        due("21 a bite", z.least(true), 1);
    }

    private static void keys() {
        HallMinutes x = hall("k0&n2", 0, 5, 10, 15);
        due("22 only the first", x.keys(0), 1);
        due("22 waited for", x.keys(1), 2);
        x.aim(2, 10);
        x.aim(0, 10);
        due("22 the first is waited for, too", x.keys(1), 7);
        x.aim(0, 5);
        due("22 two waited for", x.keys(1), 6);
        x.aim(0, 60);
        due("22 it does not begin", x.keys(0), 0);
        due("22 it does not begin", x.keys(1), 0);
        due("22 what", x.keys(2), -2);
        due("22 what", x.keys(-1), -2);
        HallMinutes y = new HallMinutes();
        y.comer(0, 5, 0);
        y.comer(2, 2, 1);
        y.comer(1, 0, 0);
        y.set(0, 58);
        rule(y, "k1");
        due("22 the looking one needs the first", y.keys(0), 3);
        due("22 waited for", y.keys(1), 2);
        y.set(0, 57);
        due("22 or the punctual one", y.keys(0), 2);
        rule(y, "n1&k2");
        due("22 a punctual one", y.keys(0), 4);
        rule(y, "m3");
        due("22 nobody", y.keys(0), 0);
        due("22 nobody", y.keys(1), 0);
        HallMinutes z = new HallMinutes();
        z.comer(0, 5, 0);
        z.comer(2, 2, 1);
        z.comer(2, 3, 1);
        rule(z, "k2");
        due("22 one of two looking ones", z.keys(0), 5);
        HallMinutes all = hall("k7", 0, 1, 2, 3, 4, 5, 6, 7, 8);
        due("22 the last of eight", all.keys(0), 128);
        due("22 it is there again behind that", all.climb(false, -1), 0);
        due("22 it is there again behind that", all.odds(8, 0), 1);
    }

    private static void guests() {
        due("23 both", hall("n2", 20, 1, 2).guests(), 3);
        due("23 the first", hall("k0", 20, 1, 2).guests(), 1);
        due("23 the second", hall("k1", 20, 1, 2).guests(), 2);
        due("23 the least of like ones", hall("n1", 20, 1, 2).guests(), 1);
        due("23 fewer go ahead of less bits", hall("k2|k0&k1", 20, 1, 2, 3).guests(), 4);
        due("23 second and fourth", hall("k1&k3", 20, 1, 2, 3, 4).guests(), 10);
        due("23 three", hall("n3&k3", 20, 1, 2, 3, 4).guests(), 11);
        due("23 four were needed", hall("n4", 20, 1, 2, 3, 4).guests(), -1);
        due("23 none is needed", hall("t", 20, 1, 2).guests(), 0);
        due("23 none is needed at the last minute", hall("n2", 59, 1, 2).guests(), 0);
        HallMinutes x = new HallMinutes();
        x.comer(1, 0, 0);
        x.comer(0, 1, 0);
        x.set(0, 20);
        rule(x, "n2");
        due("23 who is punctual needs no making", x.guests(), 2);
        due("23 kinds are as they were", x.count(1), 2);
        rule(x, "n3");
        due("23 never", x.guests(), -1);
    }

    private static void odds() {
        HallMinutes x = hall("k0", 30, 10);
        x.comer(1, 0, 0);
        x.cost(0, 3, 4);
        long[][] want = {{9, 0, 1}, {10, 3, 4}, {14, 3, 4}, {15, 1, 1}, {59, 1, 1}};
        for (long[] w : want) {
            due("24 above, by " + w[0], x.odds((int) w[0], 0), w[1]);
            due("24 below, by " + w[0], x.odds((int) w[0], 1), w[2]);
        }
        x.cost(1, 3, 6);
        x.cost(1, 4, 20);
        rule(x, "n2");
        due("24 both in time", x.odds(30, 0), 5);
        due("24 both in time", x.odds(30, 1), 8);
        due("24 beyond 50", x.odds(49, 0), 5);
        due("24 the punctual one is late", x.odds(50, 0), 1);
        x.aim(0, 55);
        due("24 55 and 5 is never", x.odds(59, 0), 3);
        due("24 55 and 5 is never", x.odds(59, 1), 4);
        due("24 as if nobody were late", x.begins(), 55);
        x.cost(0, 4, 4);
        due("24 55 and 4 is the last", x.odds(59, 0), 1);
        x.aim(0, 60);
        due("24 60 stays", x.odds(59, 0), 0);
        due("24 60 stays", x.odds(59, 1), 1);
        rule(x, "m0");
        due("24 at once", x.odds(0, 0), 1);
        due("24 minute", x.odds(60, 0), BAD_LONG);
        due("24 minute", x.odds(-1, 0), BAD_LONG);
        due("24 what", x.odds(0, 2), BAD_LONG);
        due("24 what", x.odds(0, -1), BAD_LONG);
        HallMinutes all = hall("n8", 0, 1, 1, 1, 1, 1, 1, 1, 1);
        for (int c = 0; c < 8; c++) {
            all.cost(c, 3, 15);
        }
        due("24 all eight by lot", all.odds(1, 0), 1);
        due("24 all eight by lot", all.odds(1, 1), 4294967296L);
        due("24 all eight by lot", all.odds(6, 0), 1);
        rule(all, "n1");
        due("24 not all late", all.odds(1, 0), 4294967296L - 2562890625L);
        due("24 not all late", all.odds(1, 1), 4294967296L);
    }

    private static void mean() {
        HallMinutes x = hall("m10", 10, 10);
        x.comer(1, 0, 0);
        x.comer(2, 3, 2);
        x.cost(0, 3, 4);
        due("25 late by lot", x.mean(0, 0), 5);
        due("25 late by lot", x.mean(0, 1), 4);
        due("25 never late", x.mean(1, 0), 0);
        due("25 never late", x.mean(1, 1), 1);
        due("25 looking", x.mean(2, 0), 17);
        due("25 looking", x.mean(2, 1), 4);
        x.set(2, 2);
        due("25 below nothing", x.mean(0, 0), -1);
        due("25 below nothing", x.mean(0, 1), 4);
        x.set(2, 3);
        due("25 a whole one", x.mean(0, 0), -1);
        due("25 a whole one", x.mean(0, 1), 1);
        x.set(2, 0);
        x.cost(1, 3, 1);
        x.set(1, 4);
        due("25 the fine of a punctual one", x.mean(1, 0), 9);
        due("25 the fine of a punctual one", x.mean(1, 1), 16);
        x.aim(0, 56);
        due("25 missing by lot, else late by 46 and fined", x.mean(0, 0), 125);
        due("25 missing by lot, else late by 46 and fined", x.mean(0, 1), 2);
        x.cost(0, 3, 8);
        due("25 missing as often as not", x.mean(0, 0), 75);
        due("25 missing as often as not", x.mean(0, 1), 1);
        due("25 no such", x.mean(3, 0), BAD_LONG);
        due("25 no such", x.mean(-1, 0), BAD_LONG);
        due("25 what", x.mean(0, 2), BAD_LONG);
        due("25 what", x.mean(0, -1), BAD_LONG);
        HallMinutes all = hall("m2", 0, 1, 1, 1, 1, 1, 1, 1, 1);
        for (int c = 0; c < 8; c++) {
            all.cost(c, 3, 15);
        }
        due("25 all eight by lot", all.mean(7, 0), 61);
        due("25 all eight by lot", all.mean(7, 1), 16);
    }

    private static void sure() {
        HallMinutes x = hall("m20", 59, 1);
        x.comer(1, 0, 0);
        x.cost(0, 3, 8);
        x.cost(0, 4, 4);
        due("26 the first of like ones", x.sure(0), 16);
        x.cost(0, 0, 9);
        due("26 who minds waiting", x.sure(0), 20);
        x.cost(0, 1, 12);
        due("26 who minds being late", x.sure(0), 16);
        x.cost(0, 2, 1);
        due("26 who minds all but missing", x.sure(0), 60);
        due("26 aims are as they were", x.count(6), 1);
        x.cost(0, 2, 100);
        rule(x, "m0");
        due("26 at once", x.sure(0), 0);
        due("26 punctual", x.sure(1), -2);
        due("26 no such", x.sure(2), -2);
        due("26 no such", x.sure(-1), -2);
    }

    private static void sheetAndLose() {
        HallMinutes x = new HallMinutes();
        int[][] bad = {{-1, 0, 1}, {4, 0, 1}, {0, -1, 1}, {0, 3, 1}, {0, 0, 65}, {4, 0, -1}, {0, 3, -1}};
        for (int[] b : bad) {
            due("27 sheet " + b[0] + " " + b[1] + " " + b[2], x.sheet(b[0], b[1], b[2]), -2);
        }
        due("27 no finding yet", x.count(8), 0);
        due("27 size", x.sheet(0, 0, -1), -15);
        due("27 size", x.count(8), 5);
        due("27 still lost", x.lose(0), -11);
        due("27 empty", x.sheet(0, 1, 0), 0);
        due("27 empty, not lost", x.lose(0), 0);
        due("27 full", x.sheet(3, 2, 64), 64);
        x.put(3, 2, 63, 9);
        due("27 an item", x.get(3, 2, 63), 9);
        due("27 size of one that is there", x.sheet(3, 0, LEAST_INT), -15);
        due("27 it stays", x.get(3, 2, 63), 9);
        due("27 a new one in its place", x.sheet(3, 2, 64), 64);
        due("27 items are 0 at first", x.get(3, 2, 63), 0);
        due("28 no such", x.lose(4), -2);
        due("28 no such", x.lose(-1), -2);
        due("28 lose", x.lose(3), 64);
        due("28 lost", x.lose(3), -11);
        due("28 finding", x.count(8), 1);
        x.sheet(3, 2, 64);
        due("28 a new one is empty", x.get(3, 2, 63), 0);
        x.put(3, 2, 0, 9);
        x.sheet(3, 2, 1);
        due("27 the first item, too", x.get(3, 2, 0), 0);
        due("27 no more items than asked for", x.put(3, 2, 1, 0), -12);
    }

    private static void putAndGet() {
        HallMinutes x = new HallMinutes();
        due("29 no such", x.put(4, 0, 0, 0), -2);
        due("29 no such", x.put(0, 3, 0, 0), -2);
        due("29 no such", x.put(0, -1, 0, 0), -2);
        due("30 no such", x.get(-1, 0, 0), LEAST_INT);
        due("30 no such", x.get(0, 3, 0), LEAST_INT);
        due("30 that is no finding", x.count(8), 0);
        due("29 lost", x.put(0, 0, 0, 0), -11);
        x.sheet(0, 0, 2);
        due("29 cast ahead of index", x.put(0, 1, 9, 0), -13);
        due("29 index", x.put(0, 0, 2, 0), -12);
        due("29 index", x.put(0, 0, -1, 0), -12);
        due("29 finding", x.count(8), 2);
        due("30 cast", x.get(0, 2, 9), LEAST_INT);
        due("30 cast", x.count(8), 3);
        due("30 index", x.get(0, 0, 2), LEAST_INT);
        due("30 index", x.count(8), 2);
        due("30 lost", x.get(1, 0, 2), LEAST_INT);
        due("30 lost", x.count(8), 1);
        int[] forms = {0, 1, 2};
        int[] values = {0x12345687, 127, 128, 32768, 65535, LEAST_INT};
        int[][] want = {{-121, 127, -128, 0, -1, 0}, {0x5687, 127, 128, -32768, -1, 0}, values};
        for (int form : forms) {
            x.sheet(2, form, values.length);
            for (int i = 0; i < values.length; i++) {
                due("29 put", x.put(2, form, i, values[i]), 1);
            }
            for (int i = 0; i < values.length; i++) {
                due("30 get of form " + form, x.get(2, form, i), want[form][i]);
            }
        }
    }

    private static void copy() {
        HallMinutes x = new HallMinutes();
        due("31 no such", x.copy(4, 0, 0, 0, 0), -2);
        due("31 no such", x.copy(0, 0, -1, 0, 0), -2);
        due("31 lost", x.copy(0, 0, 0, 0, 0), -11);
        x.sheet(0, 1, 5);
        due("31 the other one is lost", x.copy(0, 0, 1, 0, 0), -11);
        due("31 the other one is lost", x.copy(1, 0, 0, 0, 0), -11);
        x.sheet(1, 2, 5);
        due("31 store ahead of index", x.copy(0, -1, 1, 0, 9), -14);
        due("31 finding", x.count(8), 4);
        x.sheet(1, 1, 3);
        for (int i = 0; i < 5; i++) {
            x.put(0, 1, i, 10 + i);
        }
        int[][] bad = {{-1, 0, 1}, {0, -1, 1}, {0, 0, -1}, {0, 0, 4}, {3, 0, 3}, {0, 1, 3}, {6, 0, 0}, {0, 4, 0},
            {1, 1, Integer.MAX_VALUE}, {Integer.MAX_VALUE, 0, 1}, {0, Integer.MAX_VALUE, 1}, {0, 0, LEAST_INT}};
        for (int[] b : bad) {
            due("31 index " + b[0] + " " + b[1] + " " + b[2], x.copy(0, b[0], 1, b[1], b[2]), -12);
        }
        due("31 nothing at the end", x.copy(0, 5, 1, 3, 0), 1);
        due("31 copy", x.copy(0, 3, 1, 1, 2), 1);
        int[] other = {0, 13, 14};
        for (int i = 0; i < 3; i++) {
            due("31 item " + i, x.get(1, 1, i), other[i]);
        }
        due("31 onto itself", x.copy(0, 0, 0, 1, 4), 1);
        int[] same = {10, 10, 11, 12, 13};
        for (int i = 0; i < 5; i++) {
            due("31 as they were " + i, x.get(0, 1, i), same[i]);
        }
        due("31 and back", x.copy(0, 2, 0, 1, 3), 1);
        int[] back = {10, 11, 12, 13, 13};
        for (int i = 0; i < 5; i++) {
            due("31 as they were " + i, x.get(0, 1, i), back[i]);
        }
    }

    private static void write() {
        HallMinutes x = hall("k0", 0, 10, 20);
        due("32 no such", x.write(4), -2);
        due("32 lost", x.write(3), -11);
        due("32 finding", x.count(8), 1);
        x.sheet(0, 0, 3);
        due("32 three", x.write(0), 3);
        due("32 week 0", x.get(0, 0, 0), 10);
        due("32 week 1", x.get(0, 0, 1), 0);
        x.sheet(0, 0, 0);
        due("32 no item", x.write(0), 0);
        due("32 aims are as they were", x.count(6), 30);
        HallMinutes y = leaping("k0&k1", 0);
        y.sheet(2, 1, 64);
        for (int i = 0; i < 64; i++) {
            y.put(2, 1, i, 777);
        }
        due("32 all", y.write(2), 61);
        for (int i = 0; i < 64; i++) {
            due("32 item " + i, y.get(2, 1, i), i <= 59 ? i + 1 : i == 60 ? 1 : 777);
        }
    }

    private static void count() {
        HallMinutes x = new HallMinutes();
        x.comer(1, 0, 0);
        x.comer(0, 11, 0);
        x.comer(2, 3, 1);
        x.comer(0, 60, 0);
        x.cost(0, 3, 5);
        x.cost(3, 3, 15);
        x.set(0, 21);
        x.set(1, 22);
        x.set(2, 23);
        rule(x, "t&x");
        x.lose(0);
        x.sheet(0, 0, -1);
        int[] want = {4, 10, 21, 22, 23, 3, 71, 20, 5};
        for (int what = 0; what <= 8; what++) {
            due("33 count " + what, x.count(what), want[what]);
        }
        due("33 below", x.count(-1), -2);
        due("33 above", x.count(9), -2);
    }

    private static long told(long... row) {
        long h = 17;
        for (long each : row) {
            h = 31 * h + each;
        }
        return h;
    }

    private static void digest() {
        HallMinutes x = new HallMinutes();
        due("34 new", x.digest(), told(0, 0, 0, 0, 0, 0, 0, 0, 0, 60, -1, 60, 60, 60, 60, 0, 0, 0));
        HallMinutes y = hall("k0&k1", 3, 10, 40);
        y.cost(0, 3, 4);
        y.cost(1, 3, 8);
        y.set(1, 1);
        y.set(2, 2);
        // Each would come when the other does; up they stay at 0, down at 59 (they pay the fine and have the food).
        // The lot makes the second late by 5 at the most: by 30 it never begins.
        due("34 two", y.digest(), told(2, 3, 3, 1, 2, 5, 50, 12, -1, 40, 10, 30 - 2 + 1, 40, 0 - 2 + 1, 0, 0, 59, 40, 40, 3, 2, 0));
        y.aim(1, 30);
        due("34 by 30 with odds", y.digest(), told(2, 3, 3, 1, 2, 5, 40, 12, -1, 30, 10, 20 - 2 + 1, 30, 0 - 2 + 1, 0, 0, 59, 30, 30, 3, 2, 1));
        due("34 digests change nothing", y.digest(), told(2, 3, 3, 1, 2, 5, 40, 12, -1, 30, 10, 20 - 2 + 1, 30, 0 - 2 + 1, 0, 0, 59, 30, 30, 3, 2, 1));
        y.aim(1, 31);
        due("34 by 31 is not by 30", y.digest(), told(2, 3, 3, 1, 2, 5, 41, 12, -1, 31, 10, 21 - 2 + 1, 31, 0 - 2 + 1, 0, 0, 59, 31, 31, 3, 2, 0));
        // Up they leap for ever; down both stay at 59, and who looks for them is too late.
        HallMinutes z = leaping("k0&k1", 0);
        due("34 leaping", z.digest(), told(3, 6, 0, 0, 0, 5, 0, 0, -1, 1, 1, 0, 0, 1, 0, 1, 1, -1, 60, 2, 3, 3, 1, 1));
    }

    public static void main(String[] args) {
        newObject();
        comer();
        aim();
        read();
        cost();
        set();
        typeAndWipe();
        fault();
        begins();
        comes();
        pays();
        best();
        restless();
        climb();
        rests();
        lost();
        week();
        round();
        moved();
        least();
        keys();
        guests();
        odds();
        mean();
        sure();
        sheetAndLose();
        putAndGet();
        copy();
        write();
        count();
        digest();
        System.out.println(asked + " answers of the promises asked for, " + wrong + " wrong");
        if (wrong != 0) {
            System.exit(1);
        }
    }
}
