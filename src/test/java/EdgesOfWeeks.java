/** Boundary sentences of promises 18 and 19, and of the Terms that they rest on. */
final class EdgesOfWeeks {
    private EdgesOfWeeks() {
    }

    static void run() {
        p18AllAtOnce();
        p18WeekNought();
        p18Weeks();
        p18Bad();
        p19TheLeastWeek();
        p19ALaterOneToSixty();
        p19TheSameAims();
        p19HowManyWeeksLater();
        p19None();
        p19What();
    }

    private static void p18AllAtOnce() {
        Edges.at(18, "from AIMS as they are all PLAIN COMERS, all at once, AIM at their BEST by what was the week before.");
        HallMinutes x = Edges.hall("k0", 0, 10, 20);
        // The first goes to 0 at once, the second to 10, where it began; a week later to 0.
        Edges.due(x, "week(0)", 10);
        Edges.due(x, "week(1)", 0);
        Edges.also(x, "rule k1");
        // Now it is the second that goes to 0.
        Edges.due(x, "week(0)", 20);
        Edges.due(x, "week(1)", 0);
        // Each goes to the other's MINUTE, for ever; one behind the other they would meet.
        HallMinutes turning = Edges.hall("n2", 0, 10, 20);
        Edges.due(turning, "week(1)", 20);
        Edges.due(turning, "round(1)", 2);
        Edges.onlyAsks(Edges.busy(), "week(0)", "week(1)", "week(60)", "round(0)", "round(1)");
    }

    private static void p18WeekNought() {
        Edges.at(18, "When IT BEGINS in a WEEK (0 to 60; 0: as they are).");
        HallMinutes x = Edges.hall("m5&k0", 0, 33);
        Edges.due(x, "week(0)", 33);
        Edges.due(x, "week(1)", 5);
        Edges.due(x, "week(60)", 5);
        Edges.due(x, "begins()", 33);
        Edges.due(new HallMinutes(), "week(0)", 60);
        Edges.due(new HallMinutes(), "week(60)", 60);
    }

    private static void p18Weeks() {
        Edges.at(18, "When IT BEGINS in a WEEK.");
        // In WEEK w both AIM at w, and who looks comes a minute behind; in WEEK 59 it is too late for that, and
        // in WEEK 60 the first comes at 0 again, the second at 58.
        HallMinutes x = Edges.leaping("k0&k1", 0);
        for (int week = 0; week <= 58; week++) {
            Edges.due(x, "week(" + week + ")", week + 1);
        }
        Edges.due(x, "week(59)", 60);
        Edges.due(x, "week(60)", 1);
    }

    private static void p18Bad() {
        Edges.at(18, "WEEK. BAD.");
        Edges.refused("week(-1)", Edges.BAD);
        Edges.refused("week(61)", Edges.BAD);
        Edges.dueForEach(new HallMinutes(), "week(#)", Edges.FAR, Edges.BAD);
    }

    private static void p19TheLeastWeek() {
        Edges.at(19, "ROUND: the least WEEK f");
        HallMinutes still = Edges.hall("m20", 0, 20, 20);
        Edges.due(still, "round(0)", 0);
        Edges.due(still, "round(1)", 1);
        HallMinutes once = Edges.hall("m20", 0, 20, 21);
        Edges.due(once, "round(0)", 1);
        Edges.due(once, "round(1)", 1);
        HallMinutes twice = Edges.hall("k0", 0, 10, 20);
        Edges.due(twice, "round(0)", 2);
        Edges.due(twice, "round(1)", 1);
        Edges.due(new HallMinutes(), "round(0)", 0);
        Edges.due(new HallMinutes(), "round(1)", 1);
        Edges.due(Edges.made("comer(1, 0, 0)", "comer(2, 1, 1)", "rule k1"), "round(0)", 0);
    }

    private static void p19ALaterOneToSixty() {
        Edges.at(19, "with a later one (to 60) of the same AIMS");
        // In WEEK w both AIM at w, till TOLD stops them.
        for (int told = 57; told <= 59; told++) {
            HallMinutes x = Edges.leaping("t|k0", told);
            Edges.due(x, "round(0)", told);
            Edges.due(x, "round(1)", 1);
        }
        HallMinutes none = Edges.leaping("k0&k1", 0);
        Edges.due(none, "round(0)", Edges.NONE);
    }

    private static void p19TheSameAims() {
        Edges.at(19, "of the same AIMS");
        // One of eight is elsewhere in WEEK 0, whichever it is: WEEK 1 is not the same.
        for (int comer = 0; comer < 8; comer++) {
            HallMinutes x = Edges.hall("m20", 0, 20, 20, 20, 20, 20, 20, 20, 20);
            Edges.due(x, "round(0)", 0);
            Edges.also(x, "aim(" + comer + ", 21)");
            Edges.due(x, "round(0)", 1);
            Edges.due(x, "round(1)", 1);
        }
        // 1 and 0 are other AIMS than 0 and 32, nor are 32 and 0 the same as 0 and 32.
        HallMinutes y = Edges.hall("m32", 0, 1, 0);
        Edges.also(y, "cost(0, 0, 0)");
        Edges.due(y, "round(0)", 1);
        Edges.also(y, "aim(0, 32)");
        Edges.due(y, "round(0)", 1);
        // Like beginnings are not like AIMS.
        Edges.due(y, "week(0)", 32);
        Edges.due(y, "week(1)", 32);
    }

    private static void p19HowManyWeeksLater() {
        Edges.at(19, "of the same AIMS, and how many WEEKS later; NONE.");
        // Each comes at the other's MINUTE of the week before.
        HallMinutes x = Edges.hall("n2", 0, 10, 20);
        Edges.due(x, "round(0)", 0);
        Edges.due(x, "round(1)", 2);
        Edges.due(x, "week(59)", 20);
        Edges.due(x, "week(60)", 20);
        Edges.also(x, "aim(1, 10)");
        Edges.due(x, "round(1)", 1);
    }

    private static void p19None() {
        Edges.at(19, "how many WEEKS later (1); NONE.");
        HallMinutes none = Edges.leaping("k0&k1", 0);
        Edges.due(none, "round(0)", Edges.NONE);
        Edges.due(none, "round(1)", Edges.NONE);
    }

    private static void p19What() {
        Edges.at(19, "NONE. BAD.");
        Edges.refused("round(-1)", Edges.BAD);
        Edges.refused("round(2)", Edges.BAD);
        Edges.dueForEach(new HallMinutes(), "round(#)", Edges.FAR, Edges.BAD);
        Edges.due(Edges.leaping("k0&k1", 0), "round(2)", Edges.BAD);
    }
}
