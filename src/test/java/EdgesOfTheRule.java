/** Boundary sentences of promises 7 to 12, and of the Terms that they rest on. */
final class EdgesOfTheRule {
    private static final String FORTY = "m9|m8|m7|m6|m5|m4|m3|m2|m1|m1&t|k0|k1|m0";

    private EdgesOfTheRule() {
    }

    static void run() {
        p7Bytes();
        p7HowMany();
        p7FortyBytes();
        p7BadAheadOfFull();
        p8Empty();
        p9OfAnEmptyText();
        p9Minutes();
        p9HowManyAreThere();
        p9WhoIsThere();
        p9Told();
        p9NothingBetween();
        p9Alternatives();
        p9Conditions();
        p9CannotGoOn();
        p9ANumberThatMayNotBe();
        p9None();
        p10FirstMinute();
        p10ThereInIt();
        p10ItDoesNot();
        p10WithAFault();
        p10TheEdgesOfMinutes();
        p11NoSuchComer();
        p12Miss();
        p12Wait();
        p12Food();
        p12Late();
        p12Fine();
        p12Together();
        p12Bad();
    }

    private static void p7Bytes() {
        Edges.at(7, "A byte (0 to 255)");
        Edges.due(new HallMinutes(), "type(0)", 1);
        Edges.due(new HallMinutes(), "type(255)", 1);
        Edges.dueForEach(new HallMinutes(), "type(#)", Edges.FAR, Edges.BAD);
        Edges.refused("type(-1)", Edges.BAD);
        Edges.refused("type(256)", Edges.BAD);
        // 't' and 256 more is no 't'.
        Edges.refused("type(372)", Edges.BAD);
    }

    private static void p7HowMany() {
        Edges.at(7, "comes behind THE RULE: how many.");
        HallMinutes x = new HallMinutes();
        Edges.due(x, "type(109)", 1);
        Edges.due(x, "begins()", 60);
        Edges.due(x, "type(53)", 2);
        Edges.due(x, "begins()", 5);
        Edges.due(x, "type(57)", 3);
        Edges.due(x, "begins()", 59);
        Edges.due(x, "count(5)", 3);
    }

    private static void p7FortyBytes() {
        Edges.at(7, "THE RULE is a text of up to 40 bytes");
        HallMinutes x = new HallMinutes();
        for (int i = 1; i <= 40; i++) {
            Edges.due(x, "type(" + (int) FORTY.charAt(i - 1) + ")", i);
        }
        Edges.due(x, "fault()", Edges.NONE);
        Edges.due(x, "begins()", 0);
        Edges.due(x, "type(48)", Edges.FULL);
        Edges.due(x, "count(5)", 40);
        Edges.due(x, "begins()", 0);
        Edges.changesNothing(new String[] {"comer(0, 5, 0)", "rule " + FORTY}, "type(48)", Edges.FULL);
        Edges.changesNothing(new String[] {"comer(0, 5, 0)", "rule " + FORTY}, "type(0)", Edges.FULL);
        Edges.due(Edges.made("rule " + FORTY.substring(0, 39)), "type(55)", 40);
    }

    private static void p7BadAheadOfFull() {
        Edges.at(7, "BAD; FULL.");
        Edges.changesNothing(new String[] {"comer(0, 5, 0)", "rule " + FORTY}, "type(-1)", Edges.BAD);
        Edges.changesNothing(new String[] {"comer(0, 5, 0)", "rule " + FORTY}, "type(256)", Edges.BAD);
    }

    private static void p8Empty() {
        Edges.at(8, "THE RULE is empty: how many bytes it had.");
        HallMinutes x = new HallMinutes();
        Edges.due(x, "wipe()", 0);
        Edges.also(x, "rule " + FORTY);
        Edges.due(x, "wipe()", 40);
        Edges.due(x, "wipe()", 0);
        Edges.due(x, "count(5)", 0);
        Edges.due(x, "fault()", 0);
        Edges.due(x, "begins()", 60);
        Edges.due(x, "type(109)", 1);
        Edges.due(x, "type(120)", 2);
        Edges.due(x, "wipe()", 2);
        Edges.due(x, "fault()", 0);
        // Nothing of the forty is left behind a shorter text.
        Edges.due(Edges.made("rule " + FORTY, "rule m7"), "begins()", 7);
        Edges.due(Edges.made("rule " + FORTY, "rule m7"), "fault()", Edges.NONE);
    }

    private static void faults(Object... textsAndFaults) {
        for (int i = 0; i < textsAndFaults.length; i += 2) {
            String text = (String) textsAndFaults[i];
            int fault = (Integer) textsAndFaults[i + 1];
            HallMinutes x = Edges.made("comer(0, 0, 0)", "rule " + text);
            Edges.due(x, "count(5)", text.length());
            Edges.due(x, "fault()", fault);
            if (fault != Edges.NONE) {
                Edges.due(x, "begins()", 60);
            }
        }
    }

    private static void p9OfAnEmptyText() {
        Edges.at(9, "(of an empty text 0)");
        faults("", 0);
        Edges.due(new HallMinutes(), "fault()", 0);
    }

    private static void p9Minutes() {
        Edges.at(9, "m n (a MINUTE is come: two figures at most, 0 to 59)");
        faults("m0", -1, "m9", -1, "m6", -1, "m00", -1, "m07", -1, "m10", -1, "m59", -1, "m60", 1, "m61", 1, "m69", 1, "m99", 1,
            "m", 1, "m000", 3, "m059", 3, "m599", 3, "m100", 3, "m600", 1, "m603", 1, "m5959", 3);
    }

    private static void p9HowManyAreThere() {
        Edges.at(9, "n k (k are there: one figure, 1 to 8)");
        faults("n1", -1, "n8", -1, "n0", 1, "n9", 1, "n", 1, "n10", 2, "n11", 2, "n08", 1, "n88", 2, "n99", 1, "n1&n9", 4);
    }

    private static void p9WhoIsThere() {
        Edges.at(9, "k c (COMER c is there: one figure, 0 to 7)");
        faults("k0", -1, "k7", -1, "k8", 1, "k9", 1, "k", 1, "k00", 2, "k07", 2, "k77", 2, "k88", 1, "k1|k8", 4);
    }

    private static void p9Told() {
        Edges.at(9, "t (TOLD is come).");
        faults("t", -1, "t0", 1, "t1", 1, "tt", 1, "tm", 1, "t ", 1, "T", 0);
    }

    private static void p9NothingBetween() {
        Edges.at(9, "Nothing stands between a letter and its number.");
        faults("m 5", 1, "n 2", 1, "k 0", 1, "m\t5", 1, "m&5", 1, "m|5", 1, "m+5", 1, "m-1", 1, "m5 ", 2, "m5 9", 2, " m5", 0, "m\u00005", 1);
    }

    private static void p9Alternatives() {
        Edges.at(9, "ALTERNATIVES with | between them");
        faults("|", 0, "|t", 0, "t|", 2, "t||t", 2, "t|t", -1, "t|t|", 4, "t|t|t", -1, "||", 0);
        // As many as go into forty bytes, and one that is begun with the last of them.
        faults("t|t|t|t|t|t|t|t|t|t|t|t|t|t|t|t|t|t|t|t", -1, "t|t|t|t|t|t|t|t|t|t|t|t|t|t|t|t|t|t|t|t|", 40,
            "t|t|t|t|t|t|t|t|t|t|t|t|t|t|t|t|t|t|t|m5", -1);
        Edges.due(Edges.made("set(0, 9)", "rule t|t|t|t|t|t|t|t|t|t|t|t|t|t|t|t|t|t|t|m5"), "begins()", 5);
    }

    private static void p9Conditions() {
        Edges.at(9, "each of CONDITIONS with & between them");
        faults("&", 0, "&t", 0, "t&", 2, "t&&t", 2, "t&|t", 2, "t|&t", 2, "t&t", -1, "tm5", 1, "m5t", 2, "m55t", 3, "n1n1", 2, "k0k0", 2,
            "n1k0", 2, "t&m5&n1&k0", -1, "t&m5&n1&k0&", 11, "m5&", 3);
        faults("t&t&t&t&t&t&t&t&t&t&t&t&t&t&t&t&t&t&t&t&", 40, "t&t&t&t&t&t&t&t&t&t&t&t&t&t&t&t&t&t&t&m9", -1);
        Edges.due(Edges.made("rule t&t&t&t&t&t&t&t&t&t&t&t&t&t&t&t&t&t&t&m9"), "begins()", 9);
    }

    private static void p9CannotGoOn() {
        Edges.at(9, "The FAULT is the place of the first byte with which it cannot go on");
        faults("x", 0, "x|y", 0, "t+n9", 1, "t\u0000", 1, "t\u00ff", 1, "\u0000", 0, "\u00ff", 0, "m/", 1, "m:", 1, "m5/", 2, "m5:", 2,
            "n/", 1, "n:", 1, "k/", 1, "k:", 1, "n1/", 2, "5", 0, "m5&x&n9", 3, "t&M5", 2, "t&m", 3, "t|n", 3, "t|k", 3, "mm", 1, "mt", 1,
            "nk0", 1, "m\u00b2", 1);
        // The last of forty bytes.
        Edges.due(Edges.made("rule " + FORTY.substring(0, 39) + "x"), "fault()", 39);
        Edges.due(Edges.made("rule " + FORTY.substring(0, 39)), "fault()", 39);
    }

    private static void p9ANumberThatMayNotBe() {
        Edges.at(9, "or of the first figure of a number that may not be.");
        faults("t&m60", 3, "t|n9&x", 3, "m1&n2&k8", 7, "m60&n9", 1, "m75", 1, "n0&m60", 1, "k9|", 1, "m59|m60", 5, "m60x", 1);
        Edges.due(Edges.made("rule " + FORTY.substring(0, 38) + "k8"), "fault()", 39);
    }

    private static void p9None() {
        Edges.at(9, "The FAULT; NONE.");
        HallMinutes x = Edges.made("rule t");
        Edges.due(x, "fault()", Edges.NONE);
        Edges.also(x, "type(38)");
        Edges.due(x, "fault()", 2);
        Edges.also(x, "type(109)");
        Edges.due(x, "fault()", 3);
        Edges.also(x, "type(54)");
        Edges.due(x, "fault()", Edges.NONE);
        Edges.also(x, "type(48)");
        Edges.due(x, "fault()", 3);
        Edges.also(x, "type(124)");
        Edges.due(x, "fault()", 3);
    }

    private static void begins(HallMinutes x, Object... rulesAndMinutes) {
        for (int i = 0; i < rulesAndMinutes.length; i += 2) {
            Edges.also(x, "rule " + rulesAndMinutes[i]);
            Edges.due(x, "begins()", (Integer) rulesAndMinutes[i + 1]);
        }
    }

    private static void p10FirstMinute() {
        Edges.at(10, "IT BEGINS at the first MINUTE at which all CONDITIONS of some ALTERNATIVE are so");
        HallMinutes x = Edges.hall("t", 17, 5, 10, 10, 30);
        begins(x, "t", 17, "n1", 5, "n2", 10, "n3", 10, "n4", 30, "k3", 30, "m3", 3, "t&n4", 30, "t&n3", 17, "t&m16", 17, "t&m18", 18,
            "n4|t", 17, "t|n3", 10, "m10&n3|m9", 9, "m9|m10&n3", 9, "m40|k3|t&n2", 17, "k0&k3", 30, "k3&k0", 30, "k0|k3", 5, "k0&k0", 5,
            "n2&n4", 30, "m20&m19", 20, "m12&k0", 12, "k1&k2", 10);
    }

    private static void p10ThereInIt() {
        Edges.at(10, "(who comes at a MINUTE is there in it)");
        begins(Edges.hall("", 0, 0, 59), "n1", 0, "k0", 0, "k1", 59, "n2", 59, "m0&k0", 0, "m59&k1", 59, "m58&k1", 59);
        HallMinutes x = Edges.made("comer(1, 0, 0)", "set(0, 59)");
        begins(x, "k0", 59, "t&k0", 59, "n1", 59);
    }

    private static void p10ItDoesNot() {
        Edges.at(10, "60: it does not.");
        HallMinutes x = Edges.hall("", 0, 5, 60);
        begins(x, "n1", 5, "n2", 60, "n8", 60, "k1", 60, "k2", 60, "k7", 60, "k0&k1", 60, "k0|k1", 5, "k1|n2", 60, "k1|m59", 59, "t&k7", 60);
        HallMinutes seven = Edges.hall("n8", 0, 1, 1, 1, 1, 1, 1, 1);
        Edges.due(seven, "begins()", 60);
        Edges.also(seven, "comer(0, 59, 0)");
        Edges.due(seven, "begins()", 59);
        Edges.also(seven, "aim(7, 60)");
        Edges.due(seven, "begins()", 60);
    }

    private static void p10WithAFault() {
        Edges.at(10, "With a FAULT it never does.");
        HallMinutes x = Edges.hall("", 0, 0, 0);
        begins(x, "m0&", 60, "m0|", 60, "m0|x", 60, "m0|n9", 60, "n1|m60", 60, "x|m0", 60, "t|t|t|t|t|t|t|t|t|t|t|t|t|t|t|t|t|t|t|t|", 60, "", 60);
        Edges.due(x, "odds(59, 0)", 0);
        Edges.due(x, "keys(0)", 0);
        Edges.due(x, "week(60)", 60);
    }

    private static void p10TheEdgesOfMinutes() {
        Edges.at(10, "When IT BEGINS.");
        HallMinutes x = Edges.made("set(0, 59)");
        begins(x, "m0", 0, "m00", 0, "m59", 59, "m09", 9, "t", 59, "t&m0", 59, "t|m0", 0, "t&m59", 59);
        Edges.also(x, "set(0, 0)");
        begins(x, "t", 0, "t&m0", 0, "t&m59", 59, "t|m59", 0);
    }

    private static void p11NoSuchComer() {
        Edges.at(11, "When a COMER comes. BAD.");
        Edges.refused("comes(-1)", Edges.BAD);
        Edges.refused("comes(4)", Edges.BAD);
        Edges.refused("comes(8)", Edges.BAD);
        Edges.dueForEach(Edges.made(Edges.busy()), "comes(#)", Edges.FAR, Edges.BAD);
        HallMinutes x = Edges.made(Edges.busy());
        // 20; TOLD; 4 behind the second of 15 and 20; never.
        Edges.due(x, "comes(0)", 20);
        Edges.due(x, "comes(1)", 15);
        Edges.due(x, "comes(2)", 24);
        Edges.due(x, "comes(3)", 60);
        HallMinutes eight = Edges.hall("t", 0, 1, 2, 3, 4, 5, 6, 7, 8);
        Edges.due(eight, "comes(7)", 8);
        Edges.due(eight, "comes(8)", Edges.BAD);
    }

    private static void p12Miss() {
        Edges.at(12, "who comes at 60: MISS;");
        HallMinutes x = Edges.hall("m20", 10, 60);
        Edges.also(x, "comer(2, 1, 1)", "cost(0, 2, 33)", "set(1, 7)", "set(2, 9)");
        Edges.due(x, "pays(0)", 33);
        Edges.due(x, "pays(1)", 100);
        Edges.also(x, "rule k7");
        Edges.due(x, "pays(0)", 33);
        Edges.also(x, "cost(0, 2, 0)");
        Edges.due(x, "pays(0)", 0);
    }

    private static void p12Wait() {
        Edges.at(12, "who comes by the MINUTE at which IT BEGINS: WAIT for each MINUTE till then");
        HallMinutes x = Edges.hall("m59", 59, 59, 58, 0);
        Edges.also(x, "cost(0, 0, 7)", "cost(1, 0, 7)", "cost(2, 0, 99)");
        Edges.due(x, "pays(0)", 0);
        Edges.due(x, "pays(1)", 7);
        Edges.due(x, "pays(2)", 59 * 99);
        Edges.also(x, "rule m0");
        Edges.due(x, "pays(2)", 0);
        // It never begins: all who are there wait till 60.
        Edges.also(x, "rule k7");
        Edges.due(x, "pays(0)", 7);
        Edges.due(x, "pays(1)", 14);
        Edges.due(x, "pays(2)", 60 * 99);
    }

    private static void p12Food() {
        Edges.at(12, "less FOOD, if IT BEGINS");
        HallMinutes x = Edges.hall("m20", 59, 19, 20, 21, 60);
        Edges.also(x, "set(2, 10)");
        Edges.due(x, "pays(0)", 1 - 10);
        Edges.due(x, "pays(1)", -10);
        Edges.due(x, "pays(2)", 1);
        Edges.due(x, "pays(3)", 100);
        Edges.also(x, "rule n5");
        Edges.due(x, "pays(0)", 41);
        Edges.due(x, "pays(1)", 40);
        Edges.due(x, "pays(2)", 39);
        Edges.due(x, "pays(3)", 100);
        Edges.also(x, "rule m59", "set(2, 99)", "cost(0, 0, 0)");
        Edges.due(x, "pays(0)", -99);
    }

    private static void p12Late() {
        Edges.at(12, "who comes later: LATE for each MINUTE behind it.");
        HallMinutes x = Edges.hall("m20", 59, 20, 21, 59);
        Edges.also(x, "cost(0, 1, 7)", "cost(1, 1, 7)", "cost(2, 1, 7)");
        Edges.due(x, "pays(0)", 0);
        Edges.due(x, "pays(1)", 7);
        Edges.due(x, "pays(2)", 39 * 7);
        Edges.also(x, "rule m0", "cost(2, 1, 99)");
        Edges.due(x, "pays(2)", 59 * 99);
    }

    private static void p12Fine() {
        Edges.at(12, "And FINE for who comes behind TOLD (not at 60).");
        HallMinutes x = Edges.hall("m30", 20, 19, 20, 21, 31, 60);
        Edges.also(x, "comer(1, 0, 0)", "comer(2, 1, 2)", "comer(2, 2, 1)", "set(1, 50)");
        Edges.due(x, "pays(0)", 11);
        Edges.due(x, "pays(1)", 10);
        Edges.due(x, "pays(2)", 9 + 50);
        Edges.due(x, "pays(3)", 1 + 50);
        Edges.due(x, "pays(4)", 100);
        Edges.due(x, "pays(5)", 10);
        // Those who look come at 21, both of them.
        Edges.due(x, "pays(6)", 9 + 50);
        Edges.due(x, "pays(7)", 9 + 50);
        Edges.also(x, "rule n1&x");
        Edges.due(x, "pays(2)", 39 + 50);
        Edges.due(x, "pays(4)", 100);
        Edges.also(x, "rule m30", "set(0, 59)", "aim(3, 59)");
        Edges.due(x, "pays(3)", 29);
        Edges.also(x, "set(0, 0)", "aim(0, 0)", "aim(1, 1)");
        Edges.due(x, "pays(0)", 30);
        Edges.due(x, "pays(1)", 29 + 50);
    }

    private static void p12Together() {
        Edges.at(12, "of all together (comer = NONE).");
        Edges.due(new HallMinutes(), "pays(-1)", 0);
        Edges.due(Edges.hall("m20", 0, 15), "pays(-1)", 5);
        Edges.due(Edges.hall("m20", 0, 15, 25, 60), "pays(-1)", 5 + 5 + 100);
        HallMinutes x = Edges.hall("m59", 59, 59, 59, 59, 59, 59, 59, 59, 59);
        Edges.also(x, "set(2, 99)");
        Edges.due(x, "pays(-1)", -8 * 99);
        for (int comer = 0; comer < 8; comer++) {
            Edges.also(x, "aim(" + comer + ", 0)", "cost(" + comer + ", 0, 99)");
        }
        Edges.also(x, "rule k7&x");
        Edges.due(x, "pays(-1)", 8 * 60 * 99);
    }

    private static void p12Bad() {
        Edges.at(12, "BAD: -10000.");
        Edges.refused("pays(-2)", -10000);
        Edges.refused("pays(4)", -10000);
        Edges.refused("pays(8)", -10000);
        Edges.dueForEach(Edges.made(Edges.busy()), "pays(#)", Edges.FAR, -10000);
        Edges.due(new HallMinutes(), "pays(0)", -10000);
    }
}
