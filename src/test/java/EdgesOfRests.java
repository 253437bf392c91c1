/** Boundary sentences of promises 13 to 17, and of the Terms that they rest on. */
final class EdgesOfRests {
    private EdgesOfRests() {
    }

    static void run() {
        p13AllOthersAsTheyAre();
        p13FromNoughtToSixty();
        p13FirstOfLikeOnes();
        p13LastOne();
        p13FirstOrLast();
        p13NotPlain();
        p14AtRest();
        p14TheFirstOne();
        p14None();
        p15Up();
        p15ByNumbers();
        p15TwentyRoundsUp();
        p15Down();
        p15TwentyRoundsDown();
        p15AimsAreAsTheyWere();
        p15WhenItBeginsThen();
        p15NotPlain();
        p16Steps();
        p16Grid();
        p16ThreeAtMost();
        p16WhoIsOnTheGrid();
        p16AnotherMinuteOfTheGrid();
        p16OneGridAfterAnother();
        p16TheIth();
        p16HowMany();
        p16NoneSuch();
        p16ComerAndI();
        p16BadAheadOfFull();
        p16AllWays();
        p17Good();
        p17GoodOfAllWays();
        p17Lost();
        p17GoodOrLost();
        p17Bad();
        p17Full();
        p17NoneSuch();
    }

    private static String[] noRests() {
        // Who looks comes 3 behind the first of them. 0 comes at 30 if the other comes at 0, and at 0 if it comes
        // at 30; the other comes when 0 does: on the GRID of 30 they never rest.
        return new String[] {"comer(0, 1, 0)", "comer(0, 2, 0)", "comer(2, 3, 1)", "set(0, 6)", "set(1, 1)", "rule k2&k0"};
    }

    private static void p13AllOthersAsTheyAre() {
        Edges.at(13, "BEST for a PLAIN COMER, all others as they are");
        HallMinutes x = Edges.hall("n2", 0, 10, 20);
        Edges.due(x, "best(0, false)", 20);
        Edges.due(x, "best(1, false)", 10);
        // Its own AIM is nothing to it; another's is.
        Edges.also(x, "aim(0, 60)");
        Edges.due(x, "best(0, false)", 20);
        Edges.also(x, "aim(1, 60)");
        // Alone it waits till 60 for nothing, least at 59.
        Edges.due(x, "best(0, false)", 59);
        Edges.onlyAsks(Edges.busy(), "best(0, false)", "best(0, true)", "best(3, false)", "best(3, true)");
    }

    private static void p13FromNoughtToSixty() {
        Edges.at(13, "the MINUTE (0 to 60) at which its COST is least");
        HallMinutes x = Edges.hall("m0", 0, 30);
        Edges.due(x, "best(0, false)", 0);
        Edges.due(x, "best(0, true)", 0);
        Edges.also(x, "rule m59");
        Edges.due(x, "best(0, false)", 59);
        Edges.due(x, "best(0, true)", 59);
        Edges.also(x, "rule k7", "cost(0, 2, 0)");
        Edges.due(x, "best(0, false)", 60);
        Edges.due(x, "best(0, true)", 60);
        // Waiting a minute is as dear as missing: 59 is the first, 60 the last.
        Edges.also(x, "cost(0, 2, 1)");
        Edges.due(x, "best(0, false)", 59);
        Edges.due(x, "best(0, true)", 60);
        Edges.also(x, "cost(0, 2, 2)");
        Edges.due(x, "best(0, true)", 59);
    }

    private static void p13FirstOfLikeOnes() {
        Edges.at(13, "the first of like ones");
        HallMinutes x = Edges.hall("k0", 0, 30);
        Edges.due(x, "best(0, false)", 0);
        Edges.also(x, "rule m40", "cost(0, 0, 0)");
        Edges.due(x, "best(0, false)", 0);
        Edges.also(x, "cost(0, 0, 1)", "cost(0, 1, 0)");
        Edges.due(x, "best(0, false)", 40);
    }

    private static void p13LastOne() {
        Edges.at(13, "(the last one, climbing down)");
        HallMinutes x = Edges.hall("k0", 0, 30);
        Edges.due(x, "best(0, true)", 59);
        Edges.also(x, "cost(0, 2, 0)");
        Edges.due(x, "best(0, true)", 60);
        Edges.due(x, "best(0, false)", 0);
        Edges.also(x, "rule m40", "cost(0, 2, 1)", "cost(0, 0, 0)");
        Edges.due(x, "best(0, true)", 40);
        Edges.also(x, "cost(0, 0, 1)", "cost(0, 1, 0)");
        Edges.due(x, "best(0, true)", 59);
    }

    private static void p13FirstOrLast() {
        Edges.at(13, "BEST: the first (last = false), the last one.");
        HallMinutes x = Edges.hall("n2", 0, 10, 20);
        Edges.due(x, "best(0, false)", 20);
        Edges.due(x, "best(0, true)", 59);
        Edges.also(x, "aim(1, 59)");
        Edges.due(x, "best(0, false)", 59);
        Edges.due(x, "best(0, true)", 59);
    }

    private static void p13NotPlain() {
        Edges.at(13, "BAD: also one that is not PLAIN.");
        for (String last : new String[] {"false", "true"}) {
            Edges.refused("best(1, " + last + ")", Edges.BAD);
            Edges.refused("best(2, " + last + ")", Edges.BAD);
            Edges.refused("best(4, " + last + ")", Edges.BAD);
            Edges.refused("best(-1, " + last + ")", Edges.BAD);
            Edges.refused("best(8, " + last + ")", Edges.BAD);
            Edges.dueForEach(Edges.made(Edges.busy()), "best(#, " + last + ")", Edges.FAR, Edges.BAD);
        }
        Edges.due(new HallMinutes(), "best(0, false)", Edges.BAD);
    }

    private static void p14AtRest() {
        Edges.at(14, "AT REST are AIMS, if no PLAIN COMER would have less COST at another MINUTE");
        HallMinutes x = Edges.hall("m40", 0, 40);
        Edges.due(x, "restless()", Edges.NONE);
        Edges.also(x, "aim(0, 41)");
        Edges.due(x, "restless()", 0);
        // As dear elsewhere is not less.
        Edges.also(x, "cost(0, 1, 0)");
        Edges.due(x, "restless()", Edges.NONE);
        Edges.also(x, "aim(0, 39)");
        Edges.due(x, "restless()", 0);
        Edges.also(x, "cost(0, 0, 0)");
        Edges.due(x, "restless()", Edges.NONE);
        // 60 is another MINUTE, too, and another than 60 is.
        Edges.also(x, "cost(0, 0, 1)", "rule k7", "aim(0, 59)", "cost(0, 2, 1)");
        Edges.due(x, "restless()", Edges.NONE);
        Edges.also(x, "cost(0, 2, 0)");
        Edges.due(x, "restless()", 0);
        Edges.also(x, "aim(0, 60)");
        Edges.due(x, "restless()", Edges.NONE);
        Edges.also(x, "cost(0, 2, 2)");
        Edges.due(x, "restless()", 0);
    }

    private static void p14TheFirstOne() {
        Edges.at(14, "else the first one that would.");
        HallMinutes x = Edges.hall("m40", 0, 40, 41, 41, 39);
        Edges.due(x, "restless()", 1);
        Edges.also(x, "aim(1, 40)");
        Edges.due(x, "restless()", 2);
        Edges.also(x, "aim(2, 40)");
        Edges.due(x, "restless()", 3);
        Edges.also(x, "aim(3, 40)");
        Edges.due(x, "restless()", Edges.NONE);
        HallMinutes last = Edges.hall("m40", 0, 40, 40, 40, 40, 40, 40, 40, 41);
        Edges.due(last, "restless()", 7);
    }

    private static void p14None() {
        Edges.at(14, "Who would AIM elsewhere; NONE: AT REST.");
        Edges.due(new HallMinutes(), "restless()", Edges.NONE);
        Edges.due(Edges.made("comer(1, 0, 0)", "comer(2, 1, 1)", "rule m40"), "restless()", Edges.NONE);
        Edges.due(Edges.made("comer(1, 0, 0)", "comer(2, 1, 1)", "comer(0, 5, 0)", "rule m40"), "restless()", 2);
        Edges.onlyAsks(Edges.busy(), "restless()");
    }

    private static void p15Up() {
        Edges.at(15, "CLIMBING UP: all PLAIN ones AIM at 0");
        HallMinutes x = Edges.hall("n2", 20, 50, 60);
        Edges.due(x, "climb(false, -1)", 0);
        Edges.due(x, "climb(false, 0)", 0);
        Edges.due(x, "climb(false, 1)", 0);
        Edges.also(x, "rule n2&t");
        Edges.due(x, "climb(false, -1)", 20);
        Edges.due(x, "climb(false, 1)", 20);
        // The first of like ones: missing is as dear as coming, and 60 is the last.
        Edges.also(x, "rule m0", "cost(0, 2, 0)");
        Edges.due(x, "climb(false, 0)", 0);
    }

    private static void p15ByNumbers() {
        Edges.at(15, "then round by round PLAIN COMERS by numbers each AIM at their BEST");
        // One behind the other they go up by two a round: 0 and 0; 1 and 2; .. 37 and 37. All at once they would go
        // up by one, and not be there in 20 rounds.
        HallMinutes x = Edges.leaping("t|k0", 37);
        Edges.due(x, "climb(false, 1)", 37);
        Edges.due(x, "climb(false, 2)", 37);
        HallMinutes y = Edges.hall("k0", 30, 3, 4);
        // The first goes to 59 first of all; the second, looking at that, does so, too.
        Edges.due(y, "climb(true, 0)", 59);
        Edges.due(y, "climb(true, 1)", 59);
    }

    private static void p15TwentyRoundsUp() {
        Edges.at(15, "till a round changes nothing: those AIMS; NONE, if 20 rounds all change something.");
        // In round r they go to 2r - 1 and 2r, till TOLD stops them.
        HallMinutes rests = Edges.leaping("t|k0", 37);
        Edges.due(rests, "climb(false, -1)", 37);
        Edges.due(rests, "climb(false, 1)", 37);
        Edges.due(rests, "climb(false, 2)", 37);
        HallMinutes restsToo = Edges.leaping("t|k0", 36);
        Edges.due(restsToo, "climb(false, -1)", 36);
        HallMinutes none = Edges.leaping("t|k0", 38);
        Edges.due(none, "climb(false, -1)", Edges.NONE);
        Edges.due(none, "climb(false, 1)", Edges.NONE);
        Edges.due(none, "climb(false, 2)", Edges.NONE);
        // Who is not PLAIN changes nothing by itself, and takes no round more.
        for (String other : new String[] {"comer(1, 0, 0)", "comer(2, 30, 7)"}) {
            HallMinutes withOther = Edges.made(other, "comer(2, 1, 1)", "comer(0, 0, 0)", "comer(0, 0, 0)", "set(0, 37)", "rule t|k1");
            Edges.due(withOther, "climb(false, -1)", 37);
            Edges.due(withOther, "climb(false, 3)", 37);
            Edges.also(withOther, "set(0, 38)");
            Edges.due(withOther, "climb(false, -1)", Edges.NONE);
        }
    }

    private static void p15Down() {
        Edges.at(15, "CLIMBING DOWN: likewise, from 60 on, the last of like BEST ones.");
        HallMinutes x = Edges.hall("n2", 20, 7, 8);
        Edges.due(x, "climb(true, -1)", 59);
        Edges.due(x, "climb(true, 0)", 59);
        Edges.due(x, "climb(true, 1)", 59);
        // At 0 they would rest, too, but from 60 on missing is as good as any.
        Edges.also(x, "cost(0, 2, 0)", "cost(1, 2, 0)");
        Edges.due(x, "climb(true, 0)", 60);
        Edges.due(x, "climb(true, -1)", 60);
        Edges.due(x, "climb(false, -1)", 0);
    }

    private static String[] leapingDown(int from, int fine) {
        return new String[] {"comer(0, 0, 0)", "comer(0, 0, 0)", "comer(2, 1, 2)", "comer(1, 0, 0)", "set(0, 18)", "set(1, " + fine + ")",
            "rule n3&m" + from};
    }

    private static void p15TwentyRoundsDown() {
        Edges.at(15, "CLIMBING DOWN: likewise");
        // The FINE is as dear as waiting from 18, as TOLD, to the MINUTE m of THE RULE. In the first round they go to
        // 18 and m; in round r to m + 2r - 3 and m + 2r - 2, each just behind the other, as who looks comes then; till 59.
        HallMinutes rests = Edges.made(leapingDown(24, 6));
        Edges.due(rests, "climb(true, -1)", 59);
        Edges.due(rests, "climb(true, 0)", 59);
        Edges.due(rests, "climb(true, 1)", 59);
        HallMinutes none = Edges.made(leapingDown(23, 5));
        Edges.due(none, "climb(true, -1)", Edges.NONE);
        Edges.due(none, "climb(true, 0)", Edges.NONE);
        Edges.due(none, "climb(true, 1)", Edges.NONE);
    }

    private static void p15AimsAreAsTheyWere() {
        Edges.at(15, "(AIMS are as they were behind it.)");
        Edges.onlyAsks(Edges.busy(), "climb(false, -1)", "climb(true, -1)", "climb(false, 0)", "climb(true, 3)");
        Edges.onlyAsks(leapingDown(23, 5), "climb(true, -1)", "climb(true, 0)");
    }

    private static void p15WhenItBeginsThen() {
        Edges.at(15, "or when IT BEGINS then (comer = NONE); NONE.");
        Edges.due(new HallMinutes(), "climb(false, -1)", 60);
        Edges.due(Edges.hall("t", 9), "climb(true, -1)", 9);
        Edges.due(Edges.hall("k7", 9, 5), "climb(false, -1)", 60);
        Edges.due(Edges.hall("k7", 9, 5), "climb(false, 0)", 59);
        Edges.due(Edges.made("comer(1, 0, 0)", "rule k0", "set(0, 5)"), "climb(false, -1)", 5);
        Edges.due(Edges.leaping("t|k0", 38), "climb(false, -1)", Edges.NONE);
    }

    private static void p15NotPlain() {
        Edges.at(15, "BAD: also one that is not PLAIN.");
        for (String down : new String[] {"false", "true"}) {
            Edges.refused("climb(" + down + ", 1)", Edges.BAD);
            Edges.refused("climb(" + down + ", 2)", Edges.BAD);
            Edges.refused("climb(" + down + ", 4)", Edges.BAD);
            Edges.refused("climb(" + down + ", -2)", Edges.BAD);
            Edges.refused("climb(" + down + ", 8)", Edges.BAD);
            Edges.dueForEach(Edges.made(Edges.busy()), "climb(" + down + ", #)", Edges.FAR, Edges.BAD);
        }
        // BAD goes ahead of NONE.
        Edges.due(Edges.leaping("t|k0", 38), "climb(false, 0)", Edges.BAD);
        Edges.due(Edges.leaping("t|k0", 38), "climb(false, 3)", Edges.BAD);
    }

    private static void p16Steps() {
        Edges.at(16, "a step g (5 to 30)");
        Edges.refused("rests(4, -1, -1)", Edges.BAD);
        Edges.refused("rests(31, -1, -1)", Edges.BAD);
        Edges.refused("rests(4, 0, 0)", Edges.BAD);
        Edges.refused("rests(31, 0, 0)", Edges.BAD);
        Edges.refused("rests(0, -1, -1)", Edges.BAD);
        Edges.refused("rests(-5, -1, -1)", Edges.BAD);
        Edges.dueForEach(Edges.made(Edges.busy()), "rests(#, -1, -1)", Edges.FAR, Edges.BAD);
        Edges.due(Edges.hall("k0", 0, 1), "rests(5, -1, -1)", 12);
        Edges.due(Edges.hall("k0", 0, 1), "rests(30, -1, -1)", 2);
    }

    private static void p16Grid() {
        Edges.at(16, "GRID: MINUTES that a step g (5 to 30) divides, and 60.");
        for (int g = 5; g <= 30; g++) {
            int minutes = 59 / g + 1;
            // It begins with the one COMER: every MINUTE but 60 is as good as any.
            HallMinutes x = Edges.hall("k0", 0, 1);
            Edges.due(x, "rests(" + g + ", -1, -1)", minutes);
            Edges.due(x, "rests(" + g + ", 0, 0)", 0);
            Edges.due(x, "rests(" + g + ", 1, 0)", g);
            Edges.due(x, "rests(" + g + ", " + (minutes - 1) + ", 0)", (minutes - 1) * g);
            Edges.due(x, "rests(" + g + ", " + minutes + ", 0)", Edges.NONE);
            // 60 is as good as any, too.
            Edges.also(x, "cost(0, 2, 0)");
            Edges.due(x, "rests(" + g + ", -1, -1)", minutes + 1);
            Edges.due(x, "rests(" + g + ", " + minutes + ", 0)", 60);
            Edges.due(x, "rests(" + g + ", " + (minutes + 1) + ", 0)", Edges.NONE);
        }
    }

    private static void p16ThreeAtMost() {
        Edges.at(16, "PLAIN COMERS (3 at most: FULL)");
        HallMinutes x = Edges.hall("m0", 0, 1, 1, 1);
        Edges.also(x, "comer(1, 0, 0)", "comer(2, 1, 1)", "comer(1, 0, 0)", "comer(2, 1, 1)");
        Edges.due(x, "rests(30, -1, -1)", 1);
        Edges.due(x, "rests(30, 0, 2)", 0);
        Edges.also(x, "comer(0, 1, 0)");
        Edges.due(x, "rests(30, -1, -1)", Edges.FULL);
        Edges.due(x, "rests(30, 0, 2)", Edges.FULL);
        Edges.due(x, "rests(30, 99, 7)", Edges.FULL);
        Edges.changesNothing(new String[] {"comer(0, 1, 0)", "comer(0, 2, 0)", "comer(0, 3, 0)", "comer(0, 4, 0)", "rule t"},
            "rests(5, -1, -1)", Edges.FULL);
    }

    private static void p16WhoIsOnTheGrid() {
        Edges.at(16, "of all ways that PLAIN COMERS (3 at most: FULL) AIM at MINUTES of the GRID");
        // One PLAIN COMER among eight, whatever its number: it may come at 30 or miss.
        for (int comer = 0; comer < 8; comer++) {
            HallMinutes x = new HallMinutes();
            for (int i = 0; i < 8; i++) {
                Edges.also(x, i == comer ? "comer(0, 7, 0)" : "comer(1, 0, 0)");
            }
            Edges.also(x, "rule m30", "cost(" + comer + ", 2, 0)");
            Edges.due(x, "rests(30, -1, -1)", 2);
            Edges.due(x, "rests(30, 0, " + comer + ")", 30);
            Edges.due(x, "rests(30, 1, " + comer + ")", 60);
            Edges.due(x, "lost(30, -1)", 7 * 30);
        }
    }

    private static void p16OneGridAfterAnother() {
        Edges.at(16, "at another MINUTE of the GRID: how many;");
        // 15 were better than 0 and 30; it is of the GRIDS of 5 and of 15, not of that of 30.
        HallMinutes x = Edges.hall("m15", 0, 1);
        int[] steps = {30, 5, 30, 15, 30, 6, 5, 29, 30};
        int[] many = {2, 1, 2, 1, 2, 2, 1, 1, 2};
        for (int i = 0; i < steps.length; i++) {
            Edges.due(x, "rests(" + steps[i] + ", -1, -1)", many[i]);
        }
        Edges.due(x, "lost(5, -1)", 0);
        Edges.due(x, "lost(30, -1)", 15);
    }

    private static void p16AnotherMinuteOfTheGrid() {
        Edges.at(16, "those by which none would have less COST at another MINUTE of the GRID");
        HallMinutes x = Edges.hall("m20", 0, 1);
        // 20 were better than 30, but is none of the GRID; 0 is worse by 10.
        Edges.due(x, "rests(30, -1, -1)", 1);
        Edges.due(x, "rests(30, 0, 0)", 30);
        Edges.due(x, "rests(20, 0, 0)", 20);
        Edges.also(x, "rule m15");
        Edges.due(x, "rests(30, -1, -1)", 2);
        Edges.due(x, "rests(30, 1, 0)", 30);
        Edges.also(x, "cost(0, 2, 15)");
        Edges.due(x, "rests(30, -1, -1)", 3);
        Edges.also(x, "cost(0, 2, 14)");
        Edges.due(x, "rests(30, -1, -1)", 1);
        Edges.due(x, "rests(30, 0, 0)", 60);
        Edges.onlyAsks(Edges.busy(), "rests(30, -1, -1)", "rests(30, 0, 3)", "rests(5, 0, 0)");
    }

    private static void p16TheIth() {
        Edges.at(16, "the i-th (AIMS of the first PLAIN COMER compared first).");
        HallMinutes x = Edges.made("comer(1, 0, 0)", "comer(0, 1, 0)", "comer(2, 1, 1)", "comer(0, 1, 0)", "comer(0, 1, 0)", "rule m30",
            "cost(1, 2, 0)", "cost(3, 2, 0)", "cost(4, 2, 0)");
        // Each may come at 30 or miss: eight RESTS.
        Edges.due(x, "rests(30, -1, -1)", 8);
        for (int i = 0; i < 8; i++) {
            Edges.due(x, "rests(30, " + i + ", 1)", i < 4 ? 30 : 60);
            Edges.due(x, "rests(30, " + i + ", 3)", i % 4 < 2 ? 30 : 60);
            Edges.due(x, "rests(30, " + i + ", 4)", i % 2 == 0 ? 30 : 60);
        }
    }

    private static void p16HowMany() {
        Edges.at(16, "RESTS of a GRID: how many (i = NONE, comer = NONE)");
        HallMinutes x = Edges.hall("n2", 0, 1, 2);
        // Both at 0, or both at 30; with less to miss, both away, too.
        Edges.due(x, "rests(30, -1, -1)", 2);
        Edges.also(x, "cost(0, 2, 29)", "cost(1, 2, 29)");
        Edges.due(x, "rests(30, -1, -1)", 3);
        Edges.due(x, "rests(30, 2, 0)", 60);
        Edges.due(x, "rests(30, 2, 1)", 60);
        Edges.due(Edges.made(noRests()), "rests(30, -1, -1)", 0);
    }

    private static void p16NoneSuch() {
        Edges.at(16, "AIM of a PLAIN COMER in the i-th; NONE: there is none such.");
        HallMinutes x = Edges.hall("m30", 0, 1);
        Edges.due(x, "rests(30, 0, 0)", 30);
        Edges.due(x, "rests(30, 1, 0)", Edges.NONE);
        Edges.due(x, "rests(30, " + Edges.MOST_INT + ", 0)", Edges.NONE);
        HallMinutes none = Edges.made(noRests());
        Edges.due(none, "rests(30, -1, -1)", 0);
        Edges.due(none, "rests(30, 0, 0)", Edges.NONE);
        Edges.due(none, "rests(30, 0, 1)", Edges.NONE);
    }

    private static void p16ComerAndI() {
        Edges.at(16, "BAD: also a COMER with i = NONE, or NONE with an i");
        Edges.refused("rests(30, -1, 0)", Edges.BAD);
        Edges.refused("rests(30, 0, -1)", Edges.BAD);
        Edges.refused("rests(30, 99, -1)", Edges.BAD);
        Edges.refused("rests(30, -2, -1)", Edges.BAD);
        Edges.refused("rests(30, -2, 0)", Edges.BAD);
        Edges.refused("rests(30, 0, 1)", Edges.BAD);
        Edges.refused("rests(30, 0, 2)", Edges.BAD);
        Edges.refused("rests(30, 0, 4)", Edges.BAD);
        Edges.refused("rests(30, 0, 8)", Edges.BAD);
        Edges.refused("rests(30, 0, -2)", Edges.BAD);
        Edges.refused("rests(30, -1, -2)", Edges.BAD);
        Edges.dueForEach(Edges.made(Edges.busy()), "rests(30, 0, #)", Edges.FAR, Edges.BAD);
        // BAD goes ahead of NONE.
        Edges.refused("rests(30, 9999, 1)", Edges.BAD);
    }

    private static void p16BadAheadOfFull() {
        Edges.at(16, "or NONE with an i; FULL.");
        HallMinutes x = Edges.hall("t", 0, 1, 2, 3, 4);
        Edges.also(x, "comer(1, 0, 0)");
        Edges.due(x, "rests(4, -1, -1)", Edges.BAD);
        Edges.due(x, "rests(31, 0, 0)", Edges.BAD);
        Edges.due(x, "rests(30, -1, 0)", Edges.BAD);
        Edges.due(x, "rests(30, 0, -1)", Edges.BAD);
        Edges.due(x, "rests(30, 0, 4)", Edges.BAD);
        Edges.due(x, "rests(30, 0, 5)", Edges.BAD);
        Edges.due(x, "rests(30, 0, 0)", Edges.FULL);
    }

    private static void p16AllWays() {
        Edges.at(16, "RESTS of a GRID: of all ways");
        // Nobody is PLAIN: there is one way, and it rests.
        Edges.due(new HallMinutes(), "rests(5, -1, -1)", 1);
        Edges.due(new HallMinutes(), "rests(5, 0, 0)", Edges.BAD);
        HallMinutes x = Edges.made("comer(1, 0, 0)", "rule t");
        Edges.due(x, "rests(30, -1, -1)", 1);
        // Three who may be anywhere: 13 MINUTES of the GRID of 5 for each.
        HallMinutes free = Edges.hall("m0", 0, 1, 1, 1);
        for (int comer = 0; comer < 3; comer++) {
            Edges.also(free, "cost(" + comer + ", 0, 0)", "cost(" + comer + ", 1, 0)", "cost(" + comer + ", 2, 0)");
        }
        Edges.due(free, "rests(5, -1, -1)", 13 * 13 * 13);
        Edges.due(free, "rests(5, 2196, 0)", 60);
        Edges.due(free, "rests(5, 2196, 2)", 60);
        Edges.due(free, "rests(5, 2195, 2)", 55);
        Edges.due(free, "rests(5, 2195, 1)", 60);
        Edges.due(free, "rests(5, 13, 2)", 0);
        Edges.due(free, "rests(5, 13, 1)", 5);
        Edges.due(free, "rests(5, 2197, 0)", Edges.NONE);
        Edges.due(free, "lost(5, 2196)", 0);
        Edges.due(free, "lost(5, 2197)", -10002);
    }

    private static void p17Good() {
        Edges.at(17, "GOOD: the least COST of all COMERS together of all ways.");
        // Both at 0: they wait 3 each, and who looks comes just then. It is no REST.
        Edges.due(Edges.made(noRests()), "lost(30, -1)", 6);
        Edges.due(new HallMinutes(), "lost(30, -1)", 0);
        HallMinutes x = Edges.made("comer(1, 0, 0)", "rule k7");
        Edges.due(x, "lost(30, -1)", 60);
        // All have food: GOOD may lie below nothing.
        HallMinutes fed = Edges.hall("m30", 0, 1, 1, 1);
        Edges.also(fed, "set(2, 99)");
        Edges.due(fed, "lost(30, -1)", -3 * 99);
        Edges.due(fed, "lost(30, 0)", 0);
    }

    private static void p17GoodOfAllWays() {
        Edges.at(17, "together of all ways.");
        // It never begins: all away is best, the last of the 2197 ways; who comes earlier than that pays.
        HallMinutes away = Edges.hall("k7", 0, 1, 1, 1);
        // It begins with the first to come, and missing is dear: all at 0 is best, the first of the ways.
        HallMinutes early = Edges.hall("m0", 0, 1, 1, 1);
        for (int comer = 0; comer < 3; comer++) {
            Edges.also(away, "cost(" + comer + ", 2, 0)");
        }
        for (int g = 5; g <= 30; g += 5) {
            Edges.due(away, "lost(" + g + ", -1)", 0);
            Edges.due(early, "lost(" + g + ", -1)", 0);
        }
    }

    private static void p17Lost() {
        Edges.at(17, "LOST: COST of the i-th REST together less that.");
        HallMinutes x = Edges.hall("k0", 30, 7);
        Edges.also(x, "comer(1, 0, 0)");
        Edges.due(x, "lost(30, 0)", 30);
        Edges.due(x, "lost(30, 1)", 0);
        Edges.due(x, "lost(5, 0)", 30);
        Edges.due(x, "lost(5, 6)", 0);
        Edges.due(x, "lost(5, 11)", 25);
        Edges.due(x, "lost(5, 12)", -10002);
        Edges.onlyAsks(Edges.busy(), "lost(30, -1)", "lost(30, 0)", "lost(5, 1)");
    }

    private static void p17GoodOrLost() {
        Edges.at(17, "GOOD (i = NONE), LOST of the i-th REST of a GRID.");
        HallMinutes x = Edges.hall("m15", 0, 1);
        Edges.due(x, "lost(30, -1)", 15);
        Edges.due(x, "lost(30, 0)", 0);
        Edges.due(x, "lost(30, 1)", 0);
        Edges.due(x, "lost(30, 2)", -10002);
    }

    private static void p17Bad() {
        Edges.at(17, "BAD: -10000;");
        Edges.refused("lost(4, -1)", -10000);
        Edges.refused("lost(31, -1)", -10000);
        Edges.refused("lost(4, 0)", -10000);
        Edges.refused("lost(31, 0)", -10000);
        Edges.refused("lost(30, -2)", -10000);
        Edges.refused("lost(30, " + Edges.LEAST_INT + ")", -10000);
        Edges.dueForEach(Edges.made(Edges.busy()), "lost(#, -1)", Edges.FAR, -10000);
    }

    private static void p17Full() {
        Edges.at(17, "FULL: -10001;");
        String[] four = {"comer(0, 1, 0)", "comer(0, 2, 0)", "comer(0, 3, 0)", "comer(0, 4, 0)", "rule t"};
        Edges.changesNothing(four, "lost(30, -1)", -10001);
        Edges.changesNothing(four, "lost(30, 0)", -10001);
        Edges.changesNothing(four, "lost(30, 9999)", -10001);
        Edges.changesNothing(four, "lost(4, 0)", -10000);
        Edges.changesNothing(four, "lost(30, -2)", -10000);
        Edges.due(Edges.hall("t", 0, 1, 2, 3), "lost(30, -1)", 0);
    }

    private static void p17NoneSuch() {
        Edges.at(17, "NOT: -10002: there is none such.");
        Edges.changesNothing(noRests(), "lost(30, 0)", -10002);
        Edges.changesNothing(noRests(), "lost(30, " + Edges.MOST_INT + ")", -10002);
        Edges.due(Edges.hall("m30", 0, 1), "lost(30, 0)", 0);
        Edges.due(Edges.hall("m30", 0, 1), "lost(30, 1)", -10002);
        Edges.due(new HallMinutes(), "lost(30, 0)", 0);
        Edges.due(new HallMinutes(), "lost(30, 1)", -10002);
    }
}
