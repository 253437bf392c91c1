/** Boundary sentences of promises 24 to 26, and of the Terms that they rest on. */
final class EdgesOfRoads {
    private EdgesOfRoads() {
    }

    static void run() {
        p24LowestTerms();
        p24NoughtByOne();
        p24NoLookingOne();
        p24OrIsTold();
        p24BeyondFiftyNine();
        p24SixtyStays();
        p24AllWays();
        p24Minutes();
        p24What();
        p24AsTheLeastLong();
        p24AllElse();
        p25Mean();
        p25Bad();
        p26TheLeastMean();
        p26TheFirstOfLikeOnes();
        p26NotPlain();
    }

    private static void fraction(HallMinutes x, String call, long above, long below) {
        Edges.due(x, call.replace("#", "0"), above);
        Edges.due(x, call.replace("#", "1"), below);
    }

    private static void p24LowestTerms() {
        Edges.at(24, "FRACTIONS are told in lowest terms, above and below");
        long[][] inTime = {{1, 1}, {15, 16}, {7, 8}, {13, 16}, {3, 4}, {11, 16}, {5, 8}, {9, 16}, {1, 2}, {7, 16}, {3, 8}, {5, 16}, {1, 4},
            {3, 16}, {1, 8}, {1, 16}};
        HallMinutes x = Edges.hall("k0", 0, 10);
        for (int q = 0; q < 16; q++) {
            Edges.also(x, "cost(0, 3, " + q + ")");
            fraction(x, "odds(10, #)", inTime[q][0], inTime[q][1]);
            fraction(x, "odds(15, #)", 1, 1);
        }
    }

    private static void p24NoughtByOne() {
        Edges.at(24, "(0 by 1)");
        HallMinutes x = Edges.hall("k0", 0, 10);
        Edges.also(x, "cost(0, 3, 7)");
        fraction(x, "odds(9, #)", 0, 1);
        fraction(x, "odds(0, #)", 0, 1);
        Edges.also(x, "rule k7");
        fraction(x, "odds(59, #)", 0, 1);
        fraction(new HallMinutes(), "odds(59, #)", 0, 1);
        Edges.also(x, "rule m10", "cost(0, 3, 0)");
        fraction(x, "mean(0, #)", 0, 1);
    }

    private static void p24NoLookingOne() {
        Edges.at(24, "ROADS: a COMER that is no LOOKING one comes with a LOT");
        HallMinutes x = Edges.made("comer(0, 10, 0)", "comer(2, 3, 1)", "rule k1", "cost(0, 3, 8)", "cost(1, 3, 8)");
        // Who looks is late by as much as what it saw, and no more.
        fraction(x, "odds(12, #)", 0, 1);
        fraction(x, "odds(13, #)", 1, 2);
        fraction(x, "odds(17, #)", 1, 2);
        fraction(x, "odds(18, #)", 1, 1);
        Edges.due(x, "count(7)", 8);
    }

    private static void p24OrIsTold() {
        Edges.at(24, "d MINUTES (1 to 30; 5) later than it AIMS, or is TOLD");
        HallMinutes x = Edges.made("comer(1, 0, 0)", "set(0, 20)", "rule k0", "cost(0, 3, 8)");
        fraction(x, "odds(19, #)", 0, 1);
        fraction(x, "odds(20, #)", 1, 2);
        fraction(x, "odds(24, #)", 1, 2);
        fraction(x, "odds(25, #)", 1, 1);
        // TOLD itself is not late.
        Edges.also(x, "rule t");
        fraction(x, "odds(20, #)", 1, 1);
    }

    private static void p24BeyondFiftyNine() {
        Edges.at(24, "(60, if that is beyond 59;");
        HallMinutes x = Edges.hall("k0", 0, 54);
        Edges.also(x, "cost(0, 3, 8)");
        fraction(x, "odds(58, #)", 1, 2);
        fraction(x, "odds(59, #)", 1, 1);
        Edges.also(x, "aim(0, 55)");
        fraction(x, "odds(59, #)", 1, 2);
        fraction(x, "mean(0, #)", 50, 1);
        Edges.also(x, "aim(0, 59)", "cost(0, 4, 30)");
        fraction(x, "odds(59, #)", 1, 2);
        Edges.also(x, "aim(0, 30)");
        fraction(x, "odds(59, #)", 1, 2);
        Edges.also(x, "aim(0, 29)");
        fraction(x, "odds(59, #)", 1, 1);
        HallMinutes punctual = Edges.made("comer(1, 0, 0)", "rule k0", "cost(0, 3, 8)", "set(0, 54)");
        fraction(punctual, "odds(59, #)", 1, 1);
        Edges.also(punctual, "set(0, 55)");
        fraction(punctual, "odds(59, #)", 1, 2);
        fraction(punctual, "mean(0, #)", 50, 1);
    }

    private static void p24SixtyStays() {
        Edges.at(24, "who AIMS at 60 stays there)");
        HallMinutes x = Edges.hall("k0", 0, 60);
        Edges.also(x, "cost(0, 3, 8)", "cost(0, 4, 1)");
        fraction(x, "odds(59, #)", 0, 1);
        fraction(x, "mean(0, #)", 100, 1);
        Edges.also(x, "rule m10");
        fraction(x, "mean(0, #)", 100, 1);
    }

    private static void p24AllWays() {
        Edges.at(24, "of all ways of ROADS, each by itself; FRACTIONS.");
        HallMinutes x = Edges.hall("n2", 0, 10, 10);
        Edges.also(x, "cost(0, 3, 8)", "cost(1, 3, 8)");
        fraction(x, "odds(10, #)", 1, 4);
        fraction(x, "odds(15, #)", 1, 1);
        Edges.also(x, "rule n1");
        fraction(x, "odds(10, #)", 3, 4);
        Edges.also(x, "cost(1, 3, 1)");
        fraction(x, "odds(10, #)", 31, 32);
        HallMinutes all = Edges.hall("n8", 0, 1, 1, 1, 1, 1, 1, 1, 1);
        for (int comer = 0; comer < 8; comer++) {
            Edges.also(all, "cost(" + comer + ", 3, 15)");
        }
        fraction(all, "odds(1, #)", 1, 4294967296L);
        fraction(all, "odds(6, #)", 1, 1);
        Edges.also(all, "rule n1");
        // Not all eight are late: 16 to the eighth less 15 to the eighth.
        fraction(all, "odds(1, #)", 1732076671L, 4294967296L);
    }

    private static void p24Minutes() {
        Edges.at(24, "ODDS that IT BEGINS by a MINUTE (0 to 59)");
        Edges.refused("odds(-1, 0)", Edges.BAD_LONG);
        Edges.refused("odds(60, 0)", Edges.BAD_LONG);
        Edges.refused("odds(60, 1)", Edges.BAD_LONG);
        Edges.dueForEach(new HallMinutes(), "odds(#, 0)", Edges.FAR, Edges.BAD_LONG);
        HallMinutes x = Edges.hall("m0", 0, 1);
        fraction(x, "odds(0, #)", 1, 1);
        Edges.also(x, "rule m59");
        fraction(x, "odds(58, #)", 0, 1);
        fraction(x, "odds(59, #)", 1, 1);
        Edges.onlyAsks(Edges.busy(), "odds(0, 0)", "odds(30, 0)", "odds(30, 1)", "odds(59, 0)");
    }

    private static void p24What() {
        Edges.at(24, "above, below. BAD. (As the least long.)");
        Edges.refused("odds(0, -1)", Edges.BAD_LONG);
        Edges.refused("odds(0, 2)", Edges.BAD_LONG);
        Edges.dueForEach(new HallMinutes(), "odds(0, #)", Edges.FAR, Edges.BAD_LONG);
    }

    private static void p24AsTheLeastLong() {
        Edges.at(24, "Where the answer is a long, a refusal -x is the least long and x more.");
        Edges.due(new HallMinutes(), "odds(60, 0)", -9223372036854775806L);
        Edges.due(new HallMinutes(), "mean(0, 0)", -9223372036854775806L);
    }

    private static void p24AllElse() {
        Edges.at(24, "(All else is asked as if ROADS made nobody late.)");
        String[] making = {"comer(0, 20, 0)", "comer(1, 0, 0)", "comer(2, 4, 2)", "comer(0, 26, 0)", "set(0, 15)", "set(1, 6)", "set(2, 3)",
            "rule n3&t|k3"};
        HallMinutes without = Edges.made(making);
        HallMinutes with = Edges.made(making);
        for (int comer = 0; comer < 4; comer++) {
            Edges.also(with, "cost(" + comer + ", 3, 15)", "cost(" + comer + ", 4, 30)");
        }
        Edges.also(with, "sheet(0, 0, 64)", "write(0)");
        Edges.also(without, "sheet(0, 0, 64)", "write(0)");
        Edges.due(with, "count(7)", 45);
        String[] calls = {"begins()", "comes(0)", "comes(1)", "comes(2)", "comes(3)", "pays(-1)", "pays(0)", "pays(1)", "pays(2)", "pays(3)",
            "best(0, false)", "best(0, true)", "best(3, false)", "best(3, true)", "restless()", "climb(false, -1)", "climb(true, -1)",
            "climb(true, 3)", "rests(10, -1, -1)", "rests(10, 0, 0)", "lost(10, -1)", "lost(10, 0)", "week(0)", "week(1)", "week(2)",
            "week(60)", "round(0)", "round(1)", "moved(0)", "moved(30)", "moved(59)", "least(false)", "least(true)", "keys(0)", "keys(1)",
            "guests()", "get(0, 0, 0)", "get(0, 0, 1)", "get(0, 0, 60)"};
        for (String call : calls) {
            Edges.due(with, call, Edges.ask(without, call));
        }
    }

    private static void p25Mean() {
        Edges.at(25, "MEAN of the COST of a COMER: above, below.");
        HallMinutes x = Edges.hall("m10", 10, 10);
        Edges.also(x, "comer(1, 0, 0)", "comer(2, 3, 2)", "cost(0, 3, 4)");
        // Late by 5, one time of four; who looks at the two comes at 13 or 18.
        fraction(x, "mean(0, #)", 5, 4);
        fraction(x, "mean(1, #)", 0, 1);
        fraction(x, "mean(2, #)", 17, 4);
        Edges.also(x, "set(2, 2)");
        fraction(x, "mean(0, #)", -1, 4);
        Edges.also(x, "set(2, 3)");
        fraction(x, "mean(0, #)", -1, 1);
        Edges.also(x, "set(2, 5)", "cost(0, 3, 8)");
        fraction(x, "mean(0, #)", 0, 1);
        HallMinutes most = Edges.hall("m0", 59, 29, 29, 29, 29, 29, 29, 29, 29);
        for (int comer = 0; comer < 8; comer++) {
            Edges.also(most, "cost(" + comer + ", 1, 99)", "cost(" + comer + ", 3, 15)", "cost(" + comer + ", 4, 30)");
        }
        // 99 for each of 29 minutes, or, fifteen times of sixteen, of 59.
        fraction(most, "mean(7, #)", 45243, 8);
        fraction(most, "mean(0, #)", 45243, 8);
        // Now it begins with the last. One time of sixteen the first is in time and waits 30 minutes, unless the
        // seven others are in time, too: 30 x (16 to the seventh less 1) by 16 to the eighth.
        Edges.also(most, "rule n8");
        fraction(most, "mean(0, #)", 15 * 268435455L, 2147483648L);
        Edges.onlyAsks(Edges.busy(), "mean(0, 0)", "mean(1, 1)", "mean(2, 0)", "mean(3, 0)");
    }

    private static void p25Bad() {
        Edges.at(25, "above, below. BAD. (As the least long.)");
        Edges.refused("mean(-1, 0)", Edges.BAD_LONG);
        Edges.refused("mean(4, 0)", Edges.BAD_LONG);
        Edges.refused("mean(8, 0)", Edges.BAD_LONG);
        Edges.refused("mean(0, -1)", Edges.BAD_LONG);
        Edges.refused("mean(0, 2)", Edges.BAD_LONG);
        Edges.dueForEach(Edges.made(Edges.busy()), "mean(#, 0)", Edges.FAR, Edges.BAD_LONG);
        Edges.dueForEach(Edges.made(Edges.busy()), "mean(0, #)", Edges.FAR, Edges.BAD_LONG);
    }

    private static void p26TheLeastMean() {
        Edges.at(26, "SURE BEST of a PLAIN COMER: the MINUTE at which the MEAN of its COST is least, by ROADS");
        HallMinutes x = Edges.hall("m0", 59, 30);
        Edges.also(x, "cost(0, 3, 8)");
        Edges.due(x, "sure(0)", 0);
        // 54 costs 5 or 0; 59 costs 0 or the missing; 60 the missing.
        Edges.also(x, "rule m59");
        Edges.due(x, "sure(0)", 54);
        Edges.also(x, "cost(0, 2, 6)");
        Edges.due(x, "sure(0)", 54);
        Edges.also(x, "cost(0, 2, 4)");
        Edges.due(x, "sure(0)", 59);
        Edges.also(x, "rule k7", "cost(0, 2, 0)");
        Edges.due(x, "sure(0)", 60);
        // It begins with another, who comes at 20 or 30.
        HallMinutes y = Edges.hall("k1", 59, 1, 20);
        Edges.also(y, "cost(1, 3, 8)", "cost(1, 4, 10)", "cost(0, 0, 2)");
        Edges.due(y, "sure(0)", 30);
        Edges.also(y, "cost(0, 1, 3)");
        Edges.due(y, "sure(0)", 20);
        Edges.onlyAsks(Edges.busy(), "sure(0)", "sure(3)");
    }

    private static void p26TheFirstOfLikeOnes() {
        Edges.at(26, "by ROADS, the first of like ones.");
        HallMinutes x = Edges.hall("m20", 59, 1);
        Edges.also(x, "cost(0, 3, 8)", "cost(0, 4, 4)");
        // From 16 to 20 it is early by as much as it is late.
        Edges.due(x, "sure(0)", 16);
        HallMinutes y = Edges.hall("k0", 59, 30);
        Edges.due(y, "sure(0)", 0);
        Edges.also(y, "cost(0, 2, 0)");
        Edges.due(y, "sure(0)", 0);
        // 54 costs 5 or 0, 59 costs 0 or 5: like ones.
        HallMinutes z = Edges.hall("m59", 59, 1);
        Edges.also(z, "cost(0, 3, 8)", "cost(0, 2, 5)");
        Edges.due(z, "sure(0)", 54);
    }

    private static void p26NotPlain() {
        Edges.at(26, "SURE BEST. BAD: also one that is not PLAIN.");
        Edges.refused("sure(1)", Edges.BAD);
        Edges.refused("sure(2)", Edges.BAD);
        Edges.refused("sure(4)", Edges.BAD);
        Edges.refused("sure(-1)", Edges.BAD);
        Edges.refused("sure(8)", Edges.BAD);
        Edges.dueForEach(Edges.made(Edges.busy()), "sure(#)", Edges.FAR, Edges.BAD);
        Edges.due(new HallMinutes(), "sure(0)", Edges.BAD);
    }
}
