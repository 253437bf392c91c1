/** Boundary sentences of promises 20 to 23, and of the Terms that they rest on. */
final class EdgesOfTold {
    private EdgesOfTold() {
    }

    static void run() {
        p20AsNearAsCanBe();
        p20OfLikeOnesTheLeast();
        p20NoRestOrNoBeginning();
        p20ToldIsAMinute();
        p20Bad();
        p21FromNoughtToForty();
        p21ByTold();
        p21None();
        p21LeastFood();
        p21LeastFine();
        p22Key();
        p22ItComesAtSixty();
        p22ItDoesWithIt();
        p22WaitedFor();
        p22Bad();
        p23TheFewest();
        p23ThreeAtMost();
        p23LeastAsBits();
        p23None();
    }

    private static void p20AsNearAsCanBe() {
        Edges.at(20, "what must be TOLD, that by CLIMBING UP IT BEGINS as near to a wished MINUTE as can be");
        HallMinutes x = Edges.hall("t", 33, 5);
        for (int wish = 0; wish < 60; wish++) {
            Edges.due(x, "moved(" + wish + ")", wish);
        }
        Edges.also(x, "rule t&m30|m40");
        // It begins at 30 to 40, by what is TOLD.
        Edges.due(x, "moved(0)", 0);
        Edges.due(x, "moved(30)", 0);
        Edges.due(x, "moved(31)", 31);
        Edges.due(x, "moved(39)", 39);
        Edges.due(x, "moved(40)", 40);
        Edges.due(x, "moved(59)", 40);
        Edges.due(x, "count(2)", 33);
        Edges.onlyAsks(Edges.busy(), "moved(0)", "moved(30)", "moved(59)");
    }

    private static HallMinutes dear() {
        // TOLD for less than 35 it never begins, as missing (5) is cheaper than waiting till 40 or than the FINE;
        // TOLD for 35 or more it begins at 40.
        return Edges.made("comer(0, 1, 0)", "cost(0, 2, 5)", "set(1, 9)", "rule k0&m40");
    }

    private static void p20OfLikeOnesTheLeast() {
        Edges.at(20, "of like ones the least");
        Edges.due(Edges.hall("m20", 7, 5), "moved(20)", 0);
        Edges.due(Edges.hall("m20", 7, 5), "moved(59)", 0);
        // 40 and 60 are as far from 50: TOLD 0 is less than TOLD 35.
        Edges.due(dear(), "moved(50)", 0);
        Edges.due(dear(), "moved(49)", 35);
        Edges.due(dear(), "moved(51)", 0);
        Edges.due(new HallMinutes(), "moved(30)", 0);
    }

    private static void p20NoRestOrNoBeginning() {
        Edges.at(20, "(where it does not come to rest, or not begin, it is 60 that it begins.)");
        // TOLD for 37 at the most they come to rest: it begins as TOLD.
        HallMinutes x = Edges.leaping("t|k0", 0);
        Edges.due(x, "moved(37)", 37);
        Edges.due(x, "moved(38)", 37);
        Edges.due(x, "moved(48)", 37);
        Edges.due(x, "moved(49)", 38);
        Edges.due(x, "moved(59)", 38);
        Edges.due(dear(), "moved(59)", 0);
        Edges.due(dear(), "moved(40)", 35);
        HallMinutes faulty = Edges.hall("t&", 5, 5);
        Edges.due(faulty, "moved(0)", 0);
        Edges.due(faulty, "moved(59)", 0);
    }

    private static void p20ToldIsAMinute() {
        Edges.at(20, "TOLD is a MINUTE");
        // Whatever is TOLD, it begins at 59, with FOOD for who comes just then. Were 60 told, it would begin at 30, when
        // the other comes: but 60 cannot be TOLD.
        HallMinutes x = Edges.made("comer(0, 1, 0)", "comer(2, 30, 1)", "set(2, 40)", "rule t&m59|k1");
        for (int told = 0; told < 60; told++) {
            Edges.also(x, "set(0, " + told + ")");
            Edges.due(x, "climb(false, -1)", 59);
        }
        Edges.due(x, "moved(30)", 0);
        Edges.due(x, "moved(0)", 0);
        Edges.due(x, "set(0, 60)", Edges.BAD);
    }

    private static void p20Bad() {
        Edges.at(20, "BAD: a wish 0 to 59.");
        Edges.refused("moved(-1)", Edges.BAD);
        Edges.refused("moved(60)", Edges.BAD);
        Edges.dueForEach(new HallMinutes(), "moved(#)", Edges.FAR, Edges.BAD);
        Edges.due(Edges.hall("t", 0), "moved(0)", 0);
        Edges.due(Edges.hall("t", 0), "moved(59)", 59);
    }

    private static HallMinutes two(int told) {
        // From 60 on both come at 59, by the FINE and one minute's waiting; or, for 60 less TOLD, as TOLD.
        return Edges.hall("n2", told, 1, 2);
    }

    private static void p21FromNoughtToForty() {
        Edges.at(21, "LEAST FINE, LEAST FOOD (of 0 to 40)");
        Edges.due(two(59), "least(false)", 0);
        Edges.due(two(58), "least(false)", 2);
        Edges.due(two(21), "least(false)", 39);
        Edges.due(two(20), "least(false)", 40);
        Edges.due(two(19), "least(false)", Edges.NONE);
        HallMinutes food = waiting(20);
        Edges.due(food, "least(true)", 21);
        Edges.also(food, "cost(0, 0, 2)");
        Edges.due(food, "least(true)", Edges.NONE);
        Edges.also(food, "cost(0, 2, 2)");
        Edges.due(food, "least(true)", 39);
        Edges.also(food, "cost(0, 2, 1)");
        Edges.due(food, "least(true)", 40);
        Edges.also(food, "cost(0, 2, 0)");
        Edges.due(food, "least(true)", Edges.NONE);
    }

    private static HallMinutes waiting(int w) {
        // It begins w minutes behind who comes first, which would as soon stay away.
        return Edges.made("comer(0, 0, 0)", "comer(2, " + w + ", 1)", "set(0, 59)", "cost(0, 2, 0)", "rule k1");
    }

    private static void p21ByTold() {
        Edges.at(21, "by which, by CLIMBING DOWN, IT BEGINS by TOLD; NONE.");
        Edges.due(Edges.hall("t", 20, 1), "least(false)", 0);
        Edges.due(Edges.hall("t&m20", 20, 1), "least(false)", 0);
        Edges.due(Edges.hall("t&m21", 20, 1), "least(false)", Edges.NONE);
        Edges.due(Edges.hall("m19", 20, 1), "least(true)", 0);
        Edges.due(Edges.hall("m20", 20, 1), "least(true)", 0);
        Edges.due(Edges.hall("m21", 20, 1), "least(true)", Edges.NONE);
        // It is not by CLIMBING UP, which would begin at 0.
        Edges.due(two(10), "climb(false, -1)", 0);
        Edges.due(two(10), "least(false)", Edges.NONE);
    }

    private static void p21None() {
        Edges.at(21, "LEAST FINE (food = false), FOOD; NONE.");
        Edges.due(new HallMinutes(), "least(false)", Edges.NONE);
        Edges.due(new HallMinutes(), "least(true)", Edges.NONE);
        Edges.due(Edges.hall("k7", 59, 1), "least(false)", Edges.NONE);
        Edges.due(Edges.hall("k7", 59, 1), "least(true)", Edges.NONE);
        Edges.due(Edges.hall("m0|", 59, 1), "least(true)", Edges.NONE);
    }

    private static void p21LeastFood() {
        Edges.at(21, "LEAST FOOD (of 0 to 40)");
        HallMinutes x = waiting(20);
        // 20 for waiting is as good as staying away, and 60 is the last of like ones.
        Edges.due(x, "least(true)", 21);
        // What FOOD there is now is nothing to it.
        Edges.also(x, "set(2, 99)");
        Edges.due(x, "least(true)", 21);
        Edges.due(x, "count(4)", 99);
        Edges.also(x, "set(2, 0)", "set(0, 58)");
        Edges.due(x, "least(true)", Edges.NONE);
        Edges.due(waiting(1), "least(true)", 2);
        Edges.due(waiting(30), "least(true)", 31);
        Edges.onlyAsks(Edges.busy(), "least(true)", "least(false)");
    }

    private static void p21LeastFine() {
        Edges.at(21, "LEAST FINE");
        HallMinutes x = two(50);
        Edges.due(x, "least(false)", 10);
        Edges.also(x, "set(1, 99)");
        Edges.due(x, "least(false)", 10);
        Edges.due(x, "count(3)", 99);
        // What FOOD there is stays: no FINE helps who would as soon stay away, but with FOOD none is wanted.
        HallMinutes y = waiting(20);
        Edges.due(y, "least(false)", Edges.NONE);
        Edges.also(y, "set(2, 21)");
        Edges.due(y, "least(false)", 0);
    }

    private static void p22Key() {
        Edges.at(22, "KEY is a COMER, if without it (it comes at 60, whatever it is) IT does not BEGIN");
        HallMinutes x = Edges.made("comer(0, 5, 0)", "comer(2, 2, 1)", "comer(1, 0, 0)", "set(0, 58)", "rule k1");
        // Without the first, who looks sees the PUNCTUAL one at 58, and would come at 60.
        Edges.due(x, "keys(0)", 3);
        Edges.also(x, "set(0, 57)");
        Edges.due(x, "keys(0)", 2);
        Edges.also(x, "rule k2");
        Edges.due(x, "keys(0)", 4);
        Edges.also(x, "rule n3");
        Edges.due(x, "keys(0)", 7);
        Edges.also(x, "rule n2");
        Edges.due(x, "keys(0)", 0);
        Edges.also(x, "rule m59");
        Edges.due(x, "keys(0)", 0);
        HallMinutes eight = Edges.hall("n8", 0, 1, 2, 3, 4, 5, 6, 7, 59);
        Edges.due(eight, "keys(0)", 255);
        Edges.also(eight, "rule k7");
        Edges.due(eight, "keys(0)", 128);
        Edges.also(eight, "rule n7");
        Edges.due(eight, "keys(0)", 0);
        Edges.onlyAsks(Edges.busy(), "keys(0)", "keys(1)");
    }

    private static void p22ItComesAtSixty() {
        Edges.at(22, "(it comes at 60, whatever it is)");
        // PLAIN, PUNCTUAL or LOOKING, the last of its kind or not.
        String[] making = {"comer(0, 5, 0)", "comer(1, 0, 0)", "comer(2, 2, 1)", "comer(2, 3, 1)", "comer(2, 4, 1)", "set(0, 7)", "rule k0"};
        HallMinutes x = Edges.made(making);
        int[] others = {0, 1, 2, 3, 4};
        for (int comer : others) {
            Edges.also(x, "rule k" + comer);
            Edges.due(x, "keys(0)", 1 << comer);
        }
        Edges.also(x, "rule k2&k4");
        Edges.due(x, "keys(0)", 4 + 16);
        // It comes at 60 for no longer than this is asked.
        String[] eight = {"comer(0, 1, 0)", "comer(0, 2, 0)", "comer(1, 0, 0)", "comer(2, 1, 1)", "comer(0, 3, 0)", "comer(0, 4, 0)",
            "comer(0, 5, 0)", "comer(0, 6, 0)", "set(0, 9)", "rule n8"};
        Edges.onlyAsks(eight, "keys(0)", "keys(1)");
        HallMinutes y = Edges.made(eight);
        Edges.due(y, "keys(0)", 255);
        Edges.due(y, "week(0)", 9);
        Edges.due(y, "odds(9, 0)", 1);
    }

    private static void p22ItDoesWithIt() {
        Edges.at(22, "IT does not BEGIN, though it does with it.");
        HallMinutes x = Edges.hall("n3", 0, 1, 2);
        Edges.due(x, "keys(0)", 0);
        Edges.also(x, "rule k0&k7");
        Edges.due(x, "keys(0)", 0);
        Edges.also(x, "rule k0&");
        Edges.due(x, "keys(0)", 0);
        Edges.also(x, "rule k0", "aim(0, 60)");
        Edges.due(x, "keys(0)", 0);
        Edges.also(x, "aim(0, 59)");
        Edges.due(x, "keys(0)", 1);
        Edges.due(new HallMinutes(), "keys(0)", 0);
    }

    private static void p22WaitedFor() {
        Edges.at(22, "WAITED FOR: those behind whose coming IT BEGINS at once: who come at the MINUTE at which IT BEGINS; bits.");
        HallMinutes x = Edges.hall("m20", 0, 19, 20, 21, 20, 60);
        Edges.due(x, "keys(1)", 2 + 8);
        Edges.also(x, "rule m21");
        Edges.due(x, "keys(1)", 4);
        Edges.also(x, "rule m22");
        Edges.due(x, "keys(1)", 0);
        // It does not begin: nobody is waited for, not even who comes at 60.
        Edges.also(x, "rule k4");
        Edges.due(x, "begins()", 60);
        Edges.due(x, "keys(1)", 0);
        Edges.also(x, "rule k0");
        Edges.due(x, "keys(1)", 1);
        HallMinutes eight = Edges.made("comer(0, 0, 0)", "comer(1, 0, 0)", "comer(0, 0, 0)", "comer(0, 0, 0)", "comer(0, 0, 0)",
            "comer(0, 0, 0)", "comer(0, 0, 0)", "comer(1, 0, 0)", "rule m0");
        Edges.due(eight, "keys(1)", 255);
        HallMinutes looking = Edges.made("comer(0, 49, 0)", "comer(2, 10, 1)", "rule n2");
        Edges.due(looking, "keys(1)", 2);
        Edges.also(looking, "aim(0, 50)");
        Edges.due(looking, "keys(1)", 0);
        Edges.due(new HallMinutes(), "keys(1)", 0);
    }

    private static void p22Bad() {
        Edges.at(22, "KEYS (what = 0), those WAITED FOR (1), as bits. BAD.");
        Edges.refused("keys(-1)", Edges.BAD);
        Edges.refused("keys(2)", Edges.BAD);
        Edges.dueForEach(new HallMinutes(), "keys(#)", Edges.FAR, Edges.BAD);
    }

    private static void p23TheFewest() {
        Edges.at(23, "GUESTS: the fewest PLAIN COMERS");
        Edges.due(Edges.hall("t", 20, 1, 2), "guests()", 0);
        Edges.due(Edges.hall("m20", 20, 1, 2), "guests()", 0);
        Edges.due(Edges.hall("k0", 20, 1, 2), "guests()", 1);
        Edges.due(Edges.hall("n2", 20, 1, 2), "guests()", 3);
        Edges.due(Edges.hall("n2", 59, 1, 2), "guests()", 0);
        Edges.due(Edges.hall("n2", 58, 1, 2), "guests()", 3);
        // One with a higher bit is fewer than two with lower ones.
        Edges.due(Edges.hall("k0&k1|k2", 20, 1, 2, 3), "guests()", 4);
        Edges.due(Edges.hall("n8", 20, 1, 2, 3, 4, 5, 6, 7, 8), "guests()", Edges.NONE);
        Edges.due(Edges.hall("k7", 20, 1, 2, 3, 4, 5, 6, 7, 8), "guests()", 128);
        Edges.onlyAsks(Edges.busy(), "guests()");
    }

    private static void p23ThreeAtMost() {
        Edges.at(23, "(three at most) that are made PUNCTUAL");
        Edges.due(Edges.hall("n3", 20, 1, 2, 3), "guests()", 7);
        Edges.due(Edges.hall("n4", 20, 1, 2, 3, 4), "guests()", Edges.NONE);
        Edges.due(Edges.hall("k5&k6&k7", 20, 1, 2, 3, 4, 5, 6, 7, 8), "guests()", 128 + 64 + 32);
        Edges.due(Edges.hall("k4&k5&k6&k7", 20, 1, 2, 3, 4, 5, 6, 7, 8), "guests()", Edges.NONE);
        // Who is PUNCTUAL as it is needs no making, and none that looks can be made so.
        Edges.due(Edges.made("comer(1, 0, 0)", "comer(0, 1, 0)", "set(0, 20)", "rule n2"), "guests()", 2);
        Edges.due(Edges.made("comer(2, 1, 1)", "comer(0, 1, 0)", "set(0, 20)", "rule n2"), "guests()", Edges.NONE);
    }

    private static void p23LeastAsBits() {
        Edges.at(23, "of like ones the least as bits; NONE.");
        Edges.due(Edges.hall("n1", 20, 1, 2, 3), "guests()", 1);
        Edges.due(Edges.hall("k2|k1", 20, 1, 2, 3), "guests()", 2);
        Edges.due(Edges.hall("k0&k3|k1&k2", 20, 1, 2, 3, 4), "guests()", 6);
        Edges.due(Edges.hall("k0&k3|k1&k4", 20, 1, 2, 3, 4, 5), "guests()", 9);
        Edges.due(Edges.hall("k0&k1&k4|k1&k2&k3", 20, 1, 2, 3, 4, 5), "guests()", 14);
    }

    private static void p23None() {
        Edges.at(23, "GUESTS, as bits; NONE.");
        Edges.due(new HallMinutes(), "guests()", Edges.NONE);
        Edges.due(Edges.hall("n3", 20, 1, 2), "guests()", Edges.NONE);
        Edges.due(Edges.hall("m21", 20, 1, 2), "guests()", Edges.NONE);
        Edges.due(Edges.made("comer(1, 0, 0)", "rule k0"), "guests()", 0);
        Edges.due(Edges.made("comer(1, 0, 0)", "rule k1"), "guests()", Edges.NONE);
        Edges.due(Edges.hall("m0|x", 20, 1), "guests()", Edges.NONE);
    }
}
