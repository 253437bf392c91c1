/** Boundary sentences of promises 1 to 6, and of the Terms that they rest on. */
final class EdgesOfComers {
    private EdgesOfComers() {
    }

    static void run() {
        p1NoComers();
        p1AnEmptyRule();
        p1AllSheetsAreLost();
        p1ToldIsNoughtAtFirst();
        p1FineAndFoodAreNoughtAtFirst();
        p2Kinds();
        p2PlainAims();
        p2PlainHasNoB();
        p2PunctualHasNeitherAnorB();
        p2PunctualComesAtTold();
        p2LookingW();
        p2LookingS();
        p2LookingComesBehindOthers();
        p2LookingNever();
        p2ItsNumber();
        p2EightAtMost();
        p2BadAheadOfFull();
        p2SixtyIsNever();
        p3Minutes();
        p3WhatItWas();
        p3NotPlain();
        p4AsLongAsEachMayBe();
        p4ItemByItem();
        p4ByNumbers();
        p4BadAndNull();
        p5Wait();
        p5Late();
        p5Miss();
        p5Lot();
        p5Delay();
        p5AtFirstForEveryComer();
        p5What();
        p5NoSuchComer();
        p5RoadsOfALookingOne();
        p6Told();
        p6Fine();
        p6Food();
        p6What();
    }

    private static void p1NoComers() {
        Edges.at(1, "No COMERS");
        HallMinutes x = new HallMinutes();
        Edges.due(x, "count(0)", 0);
        Edges.due(x, "count(1)", 0);
        Edges.due(x, "count(6)", 0);
        Edges.due(x, "count(7)", 0);
        Edges.due(x, "comes(0)", Edges.BAD);
        Edges.due(x, "pays(-1)", 0);
        Edges.due(x, "comer(1, 0, 0)", 0);
    }

    private static void p1AnEmptyRule() {
        Edges.at(1, "an empty RULE");
        HallMinutes x = new HallMinutes();
        Edges.due(x, "count(5)", 0);
        Edges.due(x, "fault()", 0);
        Edges.due(x, "begins()", 60);
        Edges.due(x, "wipe()", 0);
        Edges.due(x, "type(116)", 1);
    }

    private static void p1AllSheetsAreLost() {
        Edges.at(1, "all SHEETS are LOST.");
        for (int s = 0; s < 4; s++) {
            Edges.due(new HallMinutes(), "lose(" + s + ")", Edges.NULL);
            Edges.due(new HallMinutes(), "read(" + s + ")", Edges.NULL);
            Edges.due(new HallMinutes(), "write(" + s + ")", Edges.NULL);
            for (int form = 0; form < 3; form++) {
                Edges.due(new HallMinutes(), "put(" + s + ", " + form + ", 0, 0)", Edges.NULL);
            }
        }
    }

    private static void p1ToldIsNoughtAtFirst() {
        Edges.at(1, "TOLD is a MINUTE (0 at first).");
        HallMinutes x = Edges.made("comer(1, 0, 0)", "rule t");
        Edges.due(x, "count(2)", 0);
        Edges.due(x, "comes(0)", 0);
        Edges.due(x, "begins()", 0);
        Edges.due(x, "set(0, 1)", 0);
    }

    private static void p1FineAndFoodAreNoughtAtFirst() {
        Edges.at(1, "FINE (0 to 99; 0), FOOD (0 to 99; 0).");
        HallMinutes x = Edges.hall("m30", 10, 20);
        Edges.due(x, "count(3)", 0);
        Edges.due(x, "count(4)", 0);
        Edges.due(x, "pays(0)", 10);
        Edges.due(x, "set(1, 2)", 0);
        Edges.due(x, "set(2, 3)", 0);
    }

    private static void p2Kinds() {
        Edges.at(2, "are of a KIND: 0 PLAIN");
        Edges.dueForEach(new HallMinutes(), "comer(#, 0, 0)", Edges.FAR, Edges.BAD);
        Edges.refused("comer(-1, 0, 0)", Edges.BAD);
        Edges.refused("comer(3, 0, 0)", Edges.BAD);
        Edges.refused("comer(3, 1, 1)", Edges.BAD);
    }

    private static void p2PlainAims() {
        Edges.at(2, "(comes at its AIM: a MINUTE, or 60)");
        HallMinutes x = Edges.made("comer(0, 0, 0)", "comer(0, 59, 0)", "comer(0, 60, 0)", "comer(0, 1, 0)");
        Edges.due(x, "comes(0)", 0);
        Edges.due(x, "comes(1)", 59);
        Edges.due(x, "comes(2)", 60);
        Edges.due(x, "comes(3)", 1);
        Edges.due(x, "count(6)", 120);
        Edges.dueForEach(x, "comer(0, #, 0)", Edges.FAR, Edges.BAD);
        Edges.refused("comer(0, -1, 0)", Edges.BAD);
        Edges.refused("comer(0, 61, 0)", Edges.BAD);
    }

    private static void p2PlainHasNoB() {
        Edges.at(2, "PLAIN with an AIM a (b is 0)");
        Edges.dueForEach(new HallMinutes(), "comer(0, 5, #)", Edges.FAR, Edges.BAD);
        Edges.refused("comer(0, 5, 1)", Edges.BAD);
        Edges.refused("comer(0, 5, -1)", Edges.BAD);
        Edges.due(new HallMinutes(), "comer(0, 5, 0)", 0);
    }

    private static void p2PunctualHasNeitherAnorB() {
        Edges.at(2, "PUNCTUAL (a and b are 0)");
        Edges.dueForEach(new HallMinutes(), "comer(1, #, 0)", Edges.FAR, Edges.BAD);
        Edges.dueForEach(new HallMinutes(), "comer(1, 0, #)", Edges.FAR, Edges.BAD);
        Edges.refused("comer(1, 1, 0)", Edges.BAD);
        Edges.refused("comer(1, -1, 0)", Edges.BAD);
        Edges.refused("comer(1, 0, 1)", Edges.BAD);
        Edges.refused("comer(1, 0, -1)", Edges.BAD);
        Edges.refused("comer(1, 1, 1)", Edges.BAD);
        Edges.due(new HallMinutes(), "comer(1, 0, 0)", 0);
    }

    private static void p2PunctualComesAtTold() {
        Edges.at(2, "1 PUNCTUAL (comes at TOLD)");
        HallMinutes x = Edges.made("comer(1, 0, 0)");
        Edges.due(x, "comes(0)", 0);
        Edges.also(x, "set(0, 59)");
        Edges.due(x, "comes(0)", 59);
        Edges.also(x, "set(0, 60)");
        Edges.due(x, "comes(0)", 59);
    }

    private static void p2LookingW() {
        Edges.at(2, "2 LOOKING (comes w MINUTES (1 to 30) behind");
        HallMinutes x = Edges.made("comer(0, 7, 0)", "comer(2, 1, 1)", "comer(2, 30, 1)");
        Edges.due(x, "comes(1)", 8);
        Edges.due(x, "comes(2)", 37);
        Edges.dueForEach(x, "comer(2, #, 1)", Edges.FAR, Edges.BAD);
        Edges.refused("comer(2, 0, 1)", Edges.BAD);
        Edges.refused("comer(2, 31, 1)", Edges.BAD);
    }

    private static void p2LookingS() {
        Edges.at(2, "the MINUTE by which s (1 to 7) others are there");
        HallMinutes x = Edges.made("comer(2, 2, 7)", "comer(2, 2, 1)", "comer(0, 1, 0)", "comer(0, 2, 0)", "comer(0, 3, 0)",
            "comer(0, 4, 0)", "comer(0, 5, 0)", "comer(0, 6, 0)");
        // 1 2 3 4 5 6 and the second one at 3: the seventh other is there by 6.
        Edges.due(x, "comes(1)", 3);
        Edges.due(x, "comes(0)", 8);
        Edges.also(x, "aim(7, 60)");
        Edges.due(x, "comes(0)", 60);
        Edges.dueForEach(new HallMinutes(), "comer(2, 1, #)", Edges.FAR, Edges.BAD);
        Edges.refused("comer(2, 1, 0)", Edges.BAD);
        Edges.refused("comer(2, 1, 8)", Edges.BAD);
    }

    private static void p2LookingComesBehindOthers() {
        Edges.at(2, "s (1 to 7) others are there");
        HallMinutes alone = Edges.made("comer(2, 1, 1)");
        Edges.due(alone, "comes(0)", 60);
        Edges.also(alone, "comer(2, 1, 1)");
        Edges.due(alone, "comes(0)", 60);
        Edges.due(alone, "comes(1)", 60);
        HallMinutes atOnce = Edges.made("comer(0, 9, 0)", "comer(0, 9, 0)", "comer(2, 3, 2)", "comer(2, 3, 1)", "comer(2, 5, 3)");
        Edges.due(atOnce, "comes(2)", 12);
        Edges.due(atOnce, "comes(3)", 12);
        Edges.due(atOnce, "comes(4)", 17);
        // Who looks is no other to itself: two there are not three, though it would be the third.
        HallMinutes itself = Edges.made("comer(0, 9, 0)", "comer(0, 9, 0)", "comer(2, 3, 3)");
        Edges.due(itself, "comes(2)", 60);
        // One that looks is seen by the next, whatever their numbers are.
        HallMinutes chain = Edges.made("comer(2, 2, 3)", "comer(2, 2, 2)", "comer(2, 2, 1)", "comer(0, 10, 0)");
        Edges.due(chain, "comes(2)", 12);
        Edges.due(chain, "comes(1)", 14);
        Edges.due(chain, "comes(0)", 16);
    }

    private static void p2LookingNever() {
        Edges.at(2, "never, if that is 60 or beyond)");
        HallMinutes x = Edges.made("comer(0, 49, 0)", "comer(2, 10, 1)", "comer(2, 1, 2)");
        Edges.due(x, "comes(1)", 59);
        Edges.due(x, "comes(2)", 60);
        Edges.also(x, "aim(0, 50)");
        Edges.due(x, "comes(1)", 60);
        Edges.due(x, "comes(2)", 60);
        Edges.also(x, "aim(0, 51)");
        Edges.due(x, "comes(1)", 60);
        Edges.also(x, "aim(0, 59)");
        Edges.due(x, "comes(1)", 60);
        Edges.also(x, "aim(0, 60)");
        Edges.due(x, "comes(1)", 60);
        Edges.due(x, "pays(1)", 100);
        // Who never comes is never seen.
        HallMinutes y = Edges.made("comer(0, 30, 0)", "comer(2, 30, 1)", "comer(2, 1, 2)", "rule n2");
        Edges.due(y, "comes(1)", 60);
        Edges.due(y, "comes(2)", 60);
        Edges.due(y, "begins()", 60);
    }

    private static void p2ItsNumber() {
        Edges.at(2, "LOOKING with w = a, s = b: its number.");
        HallMinutes x = new HallMinutes();
        for (int i = 0; i < 8; i++) {
            Edges.due(x, i % 3 == 0 ? "comer(0, 5, 0)" : i % 3 == 1 ? "comer(1, 0, 0)" : "comer(2, 5, 1)", i);
            Edges.due(x, "comer(3, 0, 0)", Edges.BAD);
            Edges.due(x, "count(0)", i + 1);
        }
    }

    private static String[] eight() {
        return new String[] {"comer(0, 1, 0)", "comer(0, 2, 0)", "comer(0, 3, 0)", "comer(0, 4, 0)", "comer(1, 0, 0)", "comer(2, 3, 1)",
            "comer(2, 4, 2)", "comer(0, 60, 0)", "rule n8"};
    }

    private static void p2EightAtMost() {
        Edges.at(2, "COMERS 0 to 7 (8 at most)");
        Edges.due(Edges.made(eight()), "count(0)", 8);
        Edges.due(Edges.made(eight()), "comes(7)", 60);
        Edges.due(Edges.made(eight()), "comes(8)", Edges.BAD);
        Edges.changesNothing(eight(), "comer(0, 0, 0)", Edges.FULL);
        Edges.changesNothing(eight(), "comer(1, 0, 0)", Edges.FULL);
        Edges.changesNothing(eight(), "comer(2, 1, 1)", Edges.FULL);
    }

    private static void p2BadAheadOfFull() {
        Edges.at(2, "BAD; FULL.");
        Edges.changesNothing(eight(), "comer(0, 61, 0)", Edges.BAD);
        Edges.changesNothing(eight(), "comer(0, 0, 1)", Edges.BAD);
        Edges.changesNothing(eight(), "comer(1, 0, 1)", Edges.BAD);
        Edges.changesNothing(eight(), "comer(2, 0, 1)", Edges.BAD);
        Edges.changesNothing(eight(), "comer(3, 0, 0)", Edges.BAD);
    }

    private static void p2SixtyIsNever() {
        Edges.at(2, "MINUTES are 0 to 59; 60 is never.");
        HallMinutes x = Edges.made("comer(0, 59, 0)", "comer(0, 60, 0)", "rule k0");
        Edges.due(x, "begins()", 59);
        Edges.also(x, "rule k1");
        Edges.due(x, "begins()", 60);
        Edges.due(x, "odds(59, 0)", 0);
        Edges.also(x, "rule n2");
        Edges.due(x, "begins()", 60);
    }

    private static void p3Minutes() {
        Edges.at(3, "The AIM of a PLAIN COMER");
        HallMinutes x = Edges.hall("k0", 0, 20);
        Edges.due(x, "aim(0, 0)", 20);
        Edges.due(x, "comes(0)", 0);
        Edges.due(x, "aim(0, 60)", 0);
        Edges.due(x, "comes(0)", 60);
        Edges.due(x, "aim(0, 59)", 60);
        Edges.due(x, "begins()", 59);
        Edges.dueForEach(x, "aim(0, #)", Edges.FAR, Edges.BAD);
        Edges.refused("aim(0, -1)", Edges.BAD);
        Edges.refused("aim(0, 61)", Edges.BAD);
    }

    private static void p3WhatItWas() {
        Edges.at(3, "what it was.");
        HallMinutes x = Edges.hall("k0", 0, 20, 30);
        Edges.due(x, "aim(1, 30)", 30);
        Edges.due(x, "aim(1, 31)", 30);
        Edges.due(x, "aim(1, 61)", Edges.BAD);
        Edges.due(x, "aim(1, 32)", 31);
        Edges.due(x, "aim(0, 1)", 20);
        Edges.due(x, "count(6)", 33);
    }

    private static void p3NotPlain() {
        Edges.at(3, "BAD: also one that is not PLAIN.");
        Edges.refused("aim(1, 5)", Edges.BAD);
        Edges.refused("aim(2, 5)", Edges.BAD);
        Edges.refused("aim(4, 5)", Edges.BAD);
        Edges.refused("aim(-1, 5)", Edges.BAD);
        Edges.refused("aim(8, 5)", Edges.BAD);
        Edges.dueForEach(Edges.made(Edges.busy()), "aim(#, 5)", Edges.FAR, Edges.BAD);
        Edges.due(new HallMinutes(), "aim(0, 5)", Edges.BAD);
    }

    private static HallMinutes withItems(int form, int... items) {
        HallMinutes x = Edges.hall("n1", 0, 11, 12, 13);
        Edges.also(x, "sheet(0, " + form + ", " + items.length + ")");
        for (int i = 0; i < items.length; i++) {
            Edges.also(x, "put(0, " + form + ", " + i + ", " + items[i] + ")");
        }
        return x;
    }

    private static void aims(HallMinutes x, int a, int b, int c) {
        Edges.due(x, "comes(0)", a);
        Edges.due(x, "comes(1)", b);
        Edges.due(x, "comes(2)", c);
    }

    private static void p4AsLongAsEachMayBe() {
        Edges.at(4, "item by item, as long as each may be: how many.");
        HallMinutes edges = withItems(2, 0, 60, 59);
        Edges.due(edges, "read(0)", 3);
        aims(edges, 0, 60, 59);
        HallMinutes above = withItems(2, 5, 61, 6);
        Edges.due(above, "read(0)", 1);
        aims(above, 5, 12, 13);
        HallMinutes below = withItems(2, 5, 6, -1);
        Edges.due(below, "read(0)", 2);
        aims(below, 5, 6, 13);
        HallMinutes none = withItems(2, -1, 6, 7);
        Edges.due(none, "read(0)", 0);
        aims(none, 11, 12, 13);
        HallMinutes far = withItems(2, Edges.LEAST_INT, 6, 7);
        Edges.due(far, "read(0)", 0);
        HallMinutes bytes = withItems(0, 256 + 7, 255, 8);
        Edges.due(bytes, "read(0)", 1);
        aims(bytes, 7, 12, 13);
        HallMinutes shorts = withItems(1, 65536 + 9, 65535, 8);
        Edges.due(shorts, "read(0)", 1);
        aims(shorts, 9, 12, 13);
    }

    private static void p4ItemByItem() {
        Edges.at(4, "AIMS of a SHEET for PLAIN COMERS");
        HallMinutes more = withItems(1, 1, 2, 3, 4, 99);
        Edges.due(more, "read(0)", 3);
        aims(more, 1, 2, 3);
        HallMinutes fewer = withItems(1, 1, 2);
        Edges.due(fewer, "read(0)", 2);
        aims(fewer, 1, 2, 13);
        HallMinutes empty = withItems(1);
        Edges.due(empty, "read(0)", 0);
        aims(empty, 11, 12, 13);
        Edges.due(Edges.made("comer(1, 0, 0)", "comer(2, 1, 1)", "sheet(0, 0, 2)"), "read(0)", 0);
        Edges.due(Edges.made("sheet(0, 0, 2)"), "read(0)", 0);
    }

    private static void p4ByNumbers() {
        Edges.at(4, "by numbers");
        HallMinutes x = Edges.made("comer(1, 0, 0)", "comer(0, 1, 0)", "comer(2, 3, 1)", "comer(1, 0, 0)", "comer(0, 2, 0)",
            "sheet(3, 0, 3)", "put(3, 0, 0, 40)", "put(3, 0, 1, 50)", "put(3, 0, 2, 30)");
        Edges.due(x, "read(3)", 2);
        Edges.due(x, "aim(1, 0)", 40);
        Edges.due(x, "aim(4, 0)", 50);
        Edges.due(x, "get(3, 0, 1)", 50);
    }

    private static void p4BadAndNull() {
        Edges.at(4, "BAD; NULL.");
        Edges.refused("read(-1)", Edges.BAD);
        Edges.refused("read(4)", Edges.BAD);
        Edges.dueForEach(new HallMinutes(), "read(#)", Edges.FAR, Edges.BAD);
        Edges.finds("read(3)", Edges.NULL);
    }

    private static void range(int what, int least, int most, int first) {
        HallMinutes x = Edges.hall("t", 0, 5);
        Edges.due(x, "cost(0, " + what + ", " + least + ")", first);
        Edges.due(x, "cost(0, " + what + ", " + most + ")", least);
        Edges.due(x, "cost(0, " + what + ", " + (least - 1) + ")", Edges.BAD);
        Edges.due(x, "cost(0, " + what + ", " + (most + 1) + ")", Edges.BAD);
        Edges.dueForEach(x, "cost(0, " + what + ", #)", new int[] {Edges.LEAST_INT, -999, 1000, Edges.MOST_INT}, Edges.BAD);
        Edges.due(x, "cost(0, " + what + ", " + first + ")", most);
        Edges.refused("cost(0, " + what + ", " + (least - 1) + ")", Edges.BAD);
        Edges.refused("cost(0, " + what + ", " + (most + 1) + ")", Edges.BAD);
    }

    private static void p5Wait() {
        Edges.at(5, "0 WAIT (0 to 99; 1 at first)");
        range(0, 0, 99, 1);
        HallMinutes x = Edges.hall("m59", 0, 0);
        Edges.due(x, "pays(0)", 59);
        Edges.also(x, "cost(0, 0, 99)");
        Edges.due(x, "pays(0)", 59 * 99);
        Edges.also(x, "cost(0, 0, 0)");
        Edges.due(x, "pays(0)", 0);
    }

    private static void p5Late() {
        Edges.at(5, "1 LATE (0 to 99; 1)");
        range(1, 0, 99, 1);
        HallMinutes x = Edges.hall("m0", 0, 59);
        Edges.due(x, "pays(0)", 59);
        Edges.also(x, "cost(0, 1, 99)");
        Edges.due(x, "pays(0)", 59 * 99);
        Edges.also(x, "cost(0, 1, 0)");
        Edges.due(x, "pays(0)", 0);
    }

    private static void p5Miss() {
        Edges.at(5, "2 MISS (0 to 999; 100)");
        range(2, 0, 999, 100);
        HallMinutes x = Edges.hall("m0", 0, 60);
        Edges.due(x, "pays(0)", 100);
        Edges.also(x, "cost(0, 2, 999)");
        Edges.due(x, "pays(0)", 999);
        Edges.also(x, "cost(0, 2, 0)");
        Edges.due(x, "pays(0)", 0);
    }

    private static void p5Lot() {
        Edges.at(5, "a LOT of q by 16 (0 to 15; 0 at first)");
        range(3, 0, 15, 0);
        HallMinutes x = Edges.hall("k0", 0, 10);
        Edges.due(x, "odds(10, 0)", 1);
        Edges.also(x, "cost(0, 3, 15)");
        Edges.due(x, "odds(10, 0)", 1);
        Edges.due(x, "odds(10, 1)", 16);
        Edges.due(x, "count(7)", 15);
    }

    private static void p5Delay() {
        Edges.at(5, "d MINUTES (1 to 30; 5) later than it AIMS");
        range(4, 1, 30, 5);
        HallMinutes x = Edges.hall("k0", 0, 10);
        Edges.also(x, "cost(0, 3, 8)");
        Edges.due(x, "odds(14, 1)", 2);
        Edges.due(x, "odds(15, 1)", 1);
        Edges.also(x, "cost(0, 4, 1)");
        Edges.due(x, "odds(10, 1)", 2);
        Edges.due(x, "odds(11, 1)", 1);
        Edges.also(x, "cost(0, 4, 30)");
        Edges.due(x, "odds(39, 1)", 2);
        Edges.due(x, "odds(40, 1)", 1);
    }

    private static void p5AtFirstForEveryComer() {
        Edges.at(5, "COSTS of a COMER (0 WAIT, 1 LATE, 2 MISS; 3 q, 4 d of its ROAD): what it was.");
        int[] first = {1, 1, 100, 0, 5};
        for (int comer = 0; comer < 8; comer++) {
            for (int what = 0; what < 5; what++) {
                HallMinutes x = Edges.hall("t", 0, 1, 2, 3, 4, 5, 6, 7, 8);
                Edges.due(x, "cost(" + comer + ", " + what + ", 9)", first[what]);
                Edges.due(x, "cost(" + comer + ", " + what + ", 8)", 9);
                Edges.due(x, "cost(" + (comer + 1) % 8 + ", " + what + ", 7)", first[what]);
                Edges.due(x, "cost(" + comer + ", " + (what + 1) % 5 + ", 7)", first[(what + 1) % 5]);
            }
        }
    }

    private static void p5What() {
        Edges.at(5, "BAD: also");
        Edges.refused("cost(0, -1, 1)", Edges.BAD);
        Edges.refused("cost(0, 5, 1)", Edges.BAD);
        Edges.dueForEach(Edges.made(Edges.busy()), "cost(0, #, 1)", Edges.FAR, Edges.BAD);
    }

    private static void p5NoSuchComer() {
        Edges.at(5, "COSTS of a COMER");
        Edges.refused("cost(-1, 0, 1)", Edges.BAD);
        Edges.refused("cost(4, 0, 1)", Edges.BAD);
        Edges.refused("cost(8, 0, 1)", Edges.BAD);
        Edges.dueForEach(Edges.made(Edges.busy()), "cost(#, 0, 1)", Edges.FAR, Edges.BAD);
        Edges.due(new HallMinutes(), "cost(0, 0, 1)", Edges.BAD);
        // What is refused to one that is not there yet does not wait for it.
        HallMinutes x = Edges.made("cost(0, 2, 7)", "comer(0, 60, 0)");
        Edges.due(x, "pays(0)", 100);
    }

    private static void p5RoadsOfALookingOne() {
        Edges.at(5, "BAD: also ROADS of a LOOKING one.");
        Edges.refused("cost(2, 3, 0)", Edges.BAD);
        Edges.refused("cost(2, 3, 1)", Edges.BAD);
        Edges.refused("cost(2, 4, 5)", Edges.BAD);
        Edges.refused("cost(2, 4, 30)", Edges.BAD);
        HallMinutes x = Edges.made(Edges.busy());
        Edges.due(x, "cost(2, 0, 2)", 1);
        Edges.due(x, "cost(2, 1, 2)", 1);
        Edges.due(x, "cost(2, 2, 2)", 55);
        Edges.due(x, "cost(1, 3, 2)", 9);
        Edges.due(x, "cost(1, 4, 2)", 12);
    }

    private static void setRange(int what, int most) {
        HallMinutes x = new HallMinutes();
        Edges.due(x, "set(" + what + ", " + most + ")", 0);
        Edges.due(x, "count(" + (what + 2) + ")", most);
        Edges.due(x, "set(" + what + ", " + (most + 1) + ")", Edges.BAD);
        Edges.due(x, "set(" + what + ", -1)", Edges.BAD);
        Edges.dueForEach(x, "set(" + what + ", #)", Edges.FAR, Edges.BAD);
        Edges.due(x, "set(" + what + ", 0)", most);
        Edges.due(x, "count(" + (what + 2) + ")", 0);
        Edges.refused("set(" + what + ", " + (most + 1) + ")", Edges.BAD);
        Edges.refused("set(" + what + ", -1)", Edges.BAD);
    }

    private static void p6Told() {
        Edges.at(6, "TOLD (what = 0)");
        setRange(0, 59);
        HallMinutes x = Edges.made("comer(1, 0, 0)", "rule t", "set(0, 59)");
        Edges.due(x, "begins()", 59);
        Edges.due(x, "comes(0)", 59);
    }

    private static void p6Fine() {
        Edges.at(6, "FINE (0 to 99; 0)");
        setRange(1, 99);
        HallMinutes x = Edges.hall("m30", 20, 30);
        Edges.also(x, "set(1, 99)");
        Edges.due(x, "pays(0)", 99);
    }

    private static void p6Food() {
        Edges.at(6, "FOOD (0 to 99; 0)");
        setRange(2, 99);
        HallMinutes x = Edges.hall("m30", 20, 30);
        Edges.also(x, "set(2, 99)");
        Edges.due(x, "pays(0)", -99);
    }

    private static void p6What() {
        Edges.at(6, "TOLD (what = 0), FINE (1), FOOD (2): what it was. BAD.");
        Edges.refused("set(-1, 0)", Edges.BAD);
        Edges.refused("set(3, 0)", Edges.BAD);
        Edges.dueForEach(new HallMinutes(), "set(#, 0)", Edges.FAR, Edges.BAD);
        HallMinutes x = Edges.made("set(0, 4)", "set(1, 5)", "set(2, 6)");
        Edges.due(x, "set(0, 7)", 4);
        Edges.due(x, "set(1, 8)", 5);
        Edges.due(x, "set(2, 9)", 6);
        Edges.due(x, "count(2)", 7);
        Edges.due(x, "count(3)", 8);
        Edges.due(x, "count(4)", 9);
    }
}
