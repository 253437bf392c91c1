/** Boundary sentences of promises 27 to 34, and of the Terms that they rest on. */
final class EdgesOfSheets {
    private EdgesOfSheets() {
    }

    static void run() {
        p27Sheets();
        p27Forms();
        p27Sizes();
        p27NoughtAtFirst();
        p27ANewRow();
        p27BadAheadOfSize();
        p28HowMany();
        p28BadAndNull();
        p29LowestBits();
        p29Order();
        p29Index();
        p30Item();
        p30LeastInt();
        p31AsTheyWere();
        p31Sheets();
        p31Null();
        p31Store();
        p31Below();
        p31NotSoMany();
        p31Nothing();
        p32AsManyAsThereAreItems();
        p32Forms();
        p32BadAndNull();
        p33Each();
        p33LatestFinding();
        p33Findings();
        p28NullIsLost();
        p30IndexIsNoSuchItem();
        p29CastIsAnotherForm();
        p31StoreIsUnlikeForms();
        p27SizeIsBelowNought();
        p33Bad();
        p34Row();
        p34Wraps();
        p34Refusals();
        p34OddsByThirty();
    }

    private static void p27Sheets() {
        Edges.at(27, "SHEETS 0 .. 3 are LOST (at first)");
        HallMinutes x = new HallMinutes();
        for (int s = 0; s < 4; s++) {
            Edges.due(x, "lose(" + s + ")", Edges.NULL);
            Edges.due(x, "sheet(" + s + ", 0, " + (s + 1) + ")", s + 1);
        }
        for (int s = 0; s < 4; s++) {
            Edges.due(x, "lose(" + s + ")", s + 1);
        }
        Edges.refused("sheet(-1, 0, 1)", Edges.BAD);
        Edges.refused("sheet(4, 0, 1)", Edges.BAD);
        Edges.dueForEach(new HallMinutes(), "sheet(#, 0, 1)", Edges.FAR, Edges.BAD);
    }

    private static void p27Forms() {
        Edges.at(27, "a row of a FORM: 0 bytes, 1 shorts, 2 ints");
        for (int form = 0; form < 3; form++) {
            HallMinutes x = Edges.made("sheet(0, " + form + ", 1)");
            for (int other = 0; other < 3; other++) {
                Edges.due(x, "put(0, " + other + ", 0, 5)", form == other ? 1 : Edges.CAST);
            }
        }
        Edges.refused("sheet(0, -1, 1)", Edges.BAD);
        Edges.refused("sheet(0, 3, 1)", Edges.BAD);
        Edges.dueForEach(new HallMinutes(), "sheet(0, #, 1)", Edges.FAR, Edges.BAD);
    }

    private static void p27Sizes() {
        Edges.at(27, "of 0 to 64 items (0 at first)");
        HallMinutes x = Edges.made("sheet(0, 2, 0)", "sheet(1, 2, 64)");
        Edges.due(x, "put(0, 2, 0, 1)", Edges.INDEX);
        Edges.due(x, "put(1, 2, 63, 1)", 1);
        Edges.due(x, "put(1, 2, 64, 1)", Edges.INDEX);
        Edges.due(x, "lose(0)", 0);
        Edges.due(x, "lose(1)", 64);
        Edges.refused("sheet(3, 2, 65)", Edges.BAD);
        Edges.refused("sheet(0, 2, 65)", Edges.BAD);
        Edges.refused("sheet(0, 2, " + Edges.MOST_INT + ")", Edges.BAD);
        Edges.finds("sheet(3, 2, -1)", Edges.SIZE);
        Edges.finds("sheet(0, 2, -1)", Edges.SIZE);
        Edges.finds("sheet(0, 2, " + Edges.LEAST_INT + ")", Edges.SIZE);
    }

    private static void p27NoughtAtFirst() {
        Edges.at(27, "items (0 at first).");
        for (int form = 0; form < 3; form++) {
            HallMinutes x = Edges.made("sheet(2, " + form + ", 64)");
            for (int i = 0; i < 64; i++) {
                Edges.due(x, "get(2, " + form + ", " + i + ")", 0);
            }
        }
    }

    private static void p27ANewRow() {
        Edges.at(27, "A SHEET is a new row of a FORM with n items: n.");
        HallMinutes x = Edges.made("sheet(0, 2, 3)", "put(0, 2, 0, 7)", "put(0, 2, 2, 9)");
        Edges.due(x, "sheet(0, 2, 3)", 3);
        Edges.due(x, "get(0, 2, 0)", 0);
        Edges.due(x, "get(0, 2, 2)", 0);
        Edges.also(x, "put(0, 2, 2, 9)");
        // A smaller one has no more of the larger one's items, nor has a larger one behind it.
        Edges.due(x, "sheet(0, 2, 2)", 2);
        Edges.due(x, "put(0, 2, 2, 1)", Edges.INDEX);
        Edges.due(x, "sheet(0, 2, 3)", 3);
        Edges.due(x, "get(0, 2, 2)", 0);
        Edges.due(x, "sheet(0, 0, 1)", 1);
        Edges.due(x, "put(0, 2, 0, 1)", Edges.CAST);
        Edges.due(x, "put(0, 0, 0, 1)", 1);
        Edges.also(x, "lose(0)");
        Edges.due(x, "sheet(0, 0, 1)", 1);
        Edges.due(x, "get(0, 0, 0)", 0);
        // Another SHEET is as it was.
        Edges.also(x, "put(0, 0, 0, 4)", "sheet(1, 0, 64)", "sheet(2, 0, 0)", "lose(1)");
        Edges.due(x, "get(0, 0, 0)", 4);
    }

    private static void p27BadAheadOfSize() {
        Edges.at(27, "BAD: SHEET, FORM, above 64; SIZE.");
        Edges.refused("sheet(4, 0, -1)", Edges.BAD);
        Edges.refused("sheet(-1, 0, -1)", Edges.BAD);
        Edges.refused("sheet(0, 3, -1)", Edges.BAD);
        Edges.refused("sheet(0, -1, -1)", Edges.BAD);
        Edges.refused("sheet(0, 0, 65)", Edges.BAD);
        Edges.finds("sheet(0, 0, -1)", Edges.SIZE);
    }

    private static void p28HowMany() {
        Edges.at(28, "It is LOST: how many items it had.");
        HallMinutes x = Edges.made("sheet(0, 1, 0)", "sheet(1, 1, 1)", "sheet(3, 1, 64)");
        Edges.due(x, "lose(0)", 0);
        Edges.due(x, "lose(1)", 1);
        Edges.due(x, "lose(3)", 64);
        Edges.due(x, "get(3, 1, 0)", Edges.LEAST_INT);
        Edges.due(x, "count(8)", 1);
        Edges.due(x, "lose(3)", Edges.NULL);
    }

    private static void p28BadAndNull() {
        Edges.at(28, "BAD; NULL.");
        Edges.refused("lose(-1)", Edges.BAD);
        Edges.refused("lose(4)", Edges.BAD);
        Edges.dueForEach(new HallMinutes(), "lose(#)", Edges.FAR, Edges.BAD);
        Edges.finds("lose(3)", Edges.NULL);
    }

    private static void p29LowestBits() {
        Edges.at(29, "becomes v (the lowest bits that it has): 1.");
        int[] puts = {0, 127, 128, 255, 256, -128, -129, 32767, 32768, 65535, 65536, -32769, Edges.LEAST_INT, Edges.MOST_INT};
        int[] bytes = {0, 127, -128, -1, 0, -128, 127, -1, 0, -1, 0, -1, 0, -1};
        int[] shorts = {0, 127, 128, 255, 256, -128, -129, 32767, -32768, -1, 0, 32767, 0, -1};
        int[][] want = {bytes, shorts, puts};
        for (int form = 0; form < 3; form++) {
            HallMinutes x = Edges.made("sheet(0, " + form + ", 2)");
            for (int i = 0; i < puts.length; i++) {
                Edges.due(x, "put(0, " + form + ", 1, " + puts[i] + ")", 1);
                Edges.due(x, "get(0, " + form + ", 1)", want[form][i]);
            }
            Edges.due(x, "get(0, " + form + ", 0)", 0);
        }
    }

    private static void p29Order() {
        Edges.at(29, "BAD; NULL; CAST; INDEX.");
        // busy(): 0 is three bytes, 1 two ints, 2 no shorts, 3 is LOST.
        Edges.refused("put(-1, 0, 0, 0)", Edges.BAD);
        Edges.refused("put(4, 0, 0, 0)", Edges.BAD);
        Edges.refused("put(3, -1, 0, 0)", Edges.BAD);
        Edges.refused("put(3, 3, 0, 0)", Edges.BAD);
        Edges.refused("put(0, 3, 9, 0)", Edges.BAD);
        Edges.finds("put(3, 0, 9, 0)", Edges.NULL);
        Edges.finds("put(3, 2, 0, 0)", Edges.NULL);
        Edges.finds("put(0, 1, 9, 0)", Edges.CAST);
        Edges.finds("put(0, 2, -1, 0)", Edges.CAST);
        Edges.finds("put(0, 2, 0, 0)", Edges.CAST);
        Edges.finds("put(2, 0, 0, 0)", Edges.CAST);
        Edges.finds("put(2, 1, 0, 0)", Edges.INDEX);
        Edges.dueForEach(Edges.made(Edges.busy()), "put(#, 0, 0, 0)", Edges.FAR, Edges.BAD);
        Edges.dueForEach(Edges.made(Edges.busy()), "put(0, #, 0, 0)", Edges.FAR, Edges.BAD);
    }

    private static void p29Index() {
        Edges.at(29, "CAST; INDEX.");
        Edges.finds("put(0, 0, -1, 5)", Edges.INDEX);
        Edges.finds("put(0, 0, 3, 5)", Edges.INDEX);
        Edges.finds("put(0, 0, 64, 5)", Edges.INDEX);
        Edges.dueForEach(Edges.made(Edges.busy()), "put(0, 0, #, 5)", Edges.FAR, Edges.INDEX);
        Edges.due(Edges.made(Edges.busy()), "put(0, 0, 0, 5)", 1);
        Edges.due(Edges.made(Edges.busy()), "put(0, 0, 2, 5)", 1);
    }

    private static void p30Item() {
        Edges.at(30, "Item i of it.");
        HallMinutes x = Edges.made(Edges.busy());
        Edges.due(x, "get(0, 0, 0)", 7);
        Edges.due(x, "get(0, 0, 1)", -9);
        Edges.due(x, "get(0, 0, 2)", 61);
        Edges.due(x, "get(1, 2, 0)", 0);
        Edges.due(x, "get(1, 2, 1)", 123456789);
        // An item may be the least int itself; then there is no FINDING.
        HallMinutes least = Edges.made("sheet(0, 2, 1)", "put(0, 2, 0, " + Edges.LEAST_INT + ")");
        Edges.due(least, "get(0, 2, 0)", Edges.LEAST_INT);
        Edges.due(least, "count(8)", 0);
        Edges.onlyAsks(Edges.busy(), "get(0, 0, 0)", "get(1, 2, 1)");
    }

    private static void p30LeastInt() {
        Edges.at(30, "BAD: the least int; so are NULL, CAST, INDEX (count() 8 tells).");
        Edges.refused("get(-1, 0, 0)", Edges.LEAST_INT);
        Edges.refused("get(4, 0, 0)", Edges.LEAST_INT);
        Edges.refused("get(0, -1, 0)", Edges.LEAST_INT);
        Edges.refused("get(0, 3, 0)", Edges.LEAST_INT);
        Edges.refused("get(3, 3, 0)", Edges.LEAST_INT);
        Edges.due(Edges.made("get(0, 3, 0)"), "count(8)", 0);
        Edges.finds("get(3, 0, 9)", Edges.NULL);
        Edges.finds("get(0, 1, 9)", Edges.CAST);
        Edges.finds("get(0, 2, 0)", Edges.CAST);
        Edges.finds("get(0, 0, -1)", Edges.INDEX);
        Edges.finds("get(0, 0, 3)", Edges.INDEX);
        Edges.finds("get(0, 0, 64)", Edges.INDEX);
        Edges.finds("get(2, 1, 0)", Edges.INDEX);
        for (String call : new String[] {"get(#, 0, 0)", "get(0, #, 0)", "get(0, 0, #)"}) {
            Edges.dueForEach(Edges.made(Edges.busy()), call, Edges.FAR, Edges.LEAST_INT);
        }
    }

    private static String[] rows() {
        return new String[] {"sheet(0, 1, 5)", "put(0, 1, 0, 10)", "put(0, 1, 1, 11)", "put(0, 1, 2, 12)", "put(0, 1, 3, 13)",
            "put(0, 1, 4, 14)", "sheet(1, 1, 3)", "sheet(2, 2, 5)"};
    }

    private static void items(HallMinutes x, int s, int... items) {
        for (int i = 0; i < items.length; i++) {
            Edges.due(x, "get(" + s + ", 1, " + i + ")", items[i]);
        }
    }

    private static void p31AsTheyWere() {
        Edges.at(31, "n items of SHEET s, from i on, come to SHEET t (perhaps s, as they were), from j on: 1.");
        HallMinutes other = Edges.made(rows());
        Edges.due(other, "copy(0, 3, 1, 1, 2)", 1);
        items(other, 1, 0, 13, 14);
        items(other, 0, 10, 11, 12, 13, 14);
        HallMinutes up = Edges.made(rows());
        Edges.due(up, "copy(0, 0, 0, 1, 4)", 1);
        items(up, 0, 10, 10, 11, 12, 13);
        HallMinutes down = Edges.made(rows());
        Edges.due(down, "copy(0, 1, 0, 0, 4)", 1);
        items(down, 0, 11, 12, 13, 14, 14);
        HallMinutes same = Edges.made(rows());
        Edges.due(same, "copy(0, 0, 0, 0, 5)", 1);
        items(same, 0, 10, 11, 12, 13, 14);
        HallMinutes all = Edges.made(rows());
        Edges.due(all, "copy(0, 0, 1, 0, 3)", 1);
        items(all, 1, 10, 11, 12);
    }

    private static void p31Sheets() {
        Edges.at(31, "BAD: the SHEETS;");
        Edges.changesNothing(rows(), "copy(-1, 0, 0, 0, 0)", Edges.BAD);
        Edges.changesNothing(rows(), "copy(4, 0, 0, 0, 0)", Edges.BAD);
        Edges.changesNothing(rows(), "copy(0, 0, -1, 0, 0)", Edges.BAD);
        Edges.changesNothing(rows(), "copy(0, 0, 4, 0, 0)", Edges.BAD);
        // BAD goes ahead of NULL, STORE and INDEX.
        Edges.changesNothing(rows(), "copy(3, 0, 4, 0, 0)", Edges.BAD);
        Edges.changesNothing(rows(), "copy(4, 0, 3, 0, 0)", Edges.BAD);
        Edges.changesNothing(rows(), "copy(4, -1, 0, -1, -1)", Edges.BAD);
        Edges.dueForEach(Edges.made(rows()), "copy(#, 0, 0, 0, 1)", Edges.FAR, Edges.BAD);
        Edges.dueForEach(Edges.made(rows()), "copy(0, 0, #, 0, 1)", Edges.FAR, Edges.BAD);
    }

    private static void p31Null() {
        Edges.at(31, "NULL: s, t;");
        Edges.finds(rows(), "copy(3, 0, 0, 0, 0)", Edges.NULL);
        Edges.finds(rows(), "copy(0, 0, 3, 0, 0)", Edges.NULL);
        Edges.finds(rows(), "copy(3, 0, 3, 0, 0)", Edges.NULL);
        Edges.finds(rows(), "copy(3, -1, 0, 0, 99)", Edges.NULL);
        Edges.finds(rows(), "copy(2, -1, 3, 0, 99)", Edges.NULL);
    }

    private static void p31Store() {
        Edges.at(31, "STORE; INDEX");
        Edges.finds(rows(), "copy(0, 0, 2, 0, 1)", Edges.STORE);
        Edges.finds(rows(), "copy(2, 0, 0, 0, 1)", Edges.STORE);
        Edges.finds(rows(), "copy(0, 0, 2, 0, 0)", Edges.STORE);
        Edges.finds(rows(), "copy(0, -1, 2, 0, 1)", Edges.STORE);
        Edges.finds(rows(), "copy(0, 0, 2, 0, 99)", Edges.STORE);
        Edges.finds(rows(), "copy(0, 0, 2, 0, -1)", Edges.STORE);
    }

    private static void p31Below() {
        Edges.at(31, "INDEX: below 0,");
        Edges.finds(rows(), "copy(0, -1, 1, 0, 1)", Edges.INDEX);
        Edges.finds(rows(), "copy(0, 0, 1, -1, 1)", Edges.INDEX);
        Edges.finds(rows(), "copy(0, 0, 1, 0, -1)", Edges.INDEX);
        Edges.finds(rows(), "copy(0, -1, 1, 0, 0)", Edges.INDEX);
        Edges.finds(rows(), "copy(0, 0, 1, -1, 0)", Edges.INDEX);
        Edges.finds(rows(), "copy(0, 3, 1, 3, -1)", Edges.INDEX);
        Edges.finds(rows(), "copy(0, " + Edges.LEAST_INT + ", 1, 0, 1)", Edges.INDEX);
        Edges.finds(rows(), "copy(0, 0, 1, " + Edges.LEAST_INT + ", 1)", Edges.INDEX);
        Edges.finds(rows(), "copy(0, 0, 1, 0, " + Edges.LEAST_INT + ")", Edges.INDEX);
        Edges.finds(rows(), "copy(0, " + Edges.LEAST_INT + ", 1, 0, " + Edges.LEAST_INT + ")", Edges.INDEX);
    }

    private static void p31NotSoMany() {
        Edges.at(31, "not so many.");
        Edges.due(Edges.made(rows()), "copy(0, 2, 1, 0, 3)", 1);
        Edges.finds(rows(), "copy(0, 3, 1, 0, 3)", Edges.INDEX);
        Edges.finds(rows(), "copy(0, 0, 1, 0, 4)", Edges.INDEX);
        Edges.finds(rows(), "copy(0, 0, 1, 1, 3)", Edges.INDEX);
        Edges.finds(rows(), "copy(0, 0, 0, 0, 6)", Edges.INDEX);
        Edges.finds(rows(), "copy(0, 5, 1, 0, 1)", Edges.INDEX);
        Edges.finds(rows(), "copy(0, 0, 1, 3, 1)", Edges.INDEX);
        // Sums that wrap around are not few.
        Edges.finds(rows(), "copy(0, 1, 1, 0, " + Edges.MOST_INT + ")", Edges.INDEX);
        Edges.finds(rows(), "copy(0, " + Edges.MOST_INT + ", 1, 0, 1)", Edges.INDEX);
        Edges.finds(rows(), "copy(0, 0, 1, " + Edges.MOST_INT + ", 1)", Edges.INDEX);
        Edges.finds(rows(), "copy(0, " + Edges.MOST_INT + ", 1, " + Edges.MOST_INT + ", " + Edges.MOST_INT + ")", Edges.INDEX);
    }

    private static void p31Nothing() {
        Edges.at(31, "n items of SHEET s, from i on");
        Edges.changesNothing(rows(), "copy(0, 0, 1, 0, 0)", 1);
        // Behind the last item there are no items, so none can come from there; but no further on.
        Edges.changesNothing(rows(), "copy(0, 5, 1, 3, 0)", 1);
        Edges.finds(rows(), "copy(0, 6, 1, 0, 0)", Edges.INDEX);
        Edges.finds(rows(), "copy(0, 0, 1, 4, 0)", Edges.INDEX);
        HallMinutes empty = Edges.made("sheet(0, 0, 0)");
        Edges.due(empty, "copy(0, 0, 0, 0, 0)", 1);
        Edges.due(empty, "copy(0, 0, 0, 0, 1)", Edges.INDEX);
    }

    private static void p32AsManyAsThereAreItems() {
        Edges.at(32, "from item 0 on, as many as there are items (61 at most): how many.");
        for (int n : new int[] {0, 1, 2, 60, 61, 62, 64}) {
            HallMinutes x = Edges.leaping("k0&k1", 0);
            Edges.also(x, "sheet(1, 1, " + n + ")");
            for (int i = 0; i < n; i++) {
                Edges.also(x, "put(1, 1, " + i + ", 777)");
            }
            Edges.due(x, "write(1)", Math.min(n, 61));
            for (int i = 0; i < n; i++) {
                // In WEEK w it begins at w + 1, up to WEEK 58; then never, then at 1 again.
                Edges.due(x, "get(1, 1, " + i + ")", i < 60 ? i + 1 : i == 60 ? 1 : 777);
            }
        }
        HallMinutes y = Edges.hall("k0", 0, 10, 20);
        Edges.also(y, "sheet(0, 2, 3)");
        Edges.due(y, "write(0)", 3);
        Edges.due(y, "get(0, 2, 0)", 10);
        Edges.due(y, "get(0, 2, 1)", 0);
        Edges.due(y, "count(6)", 30);
        Edges.due(y, "begins()", 10);
    }

    private static void p32Forms() {
        Edges.at(32, "When IT BEGINS in WEEKS 0 on comes to a SHEET");
        for (int form = 0; form < 3; form++) {
            HallMinutes x = Edges.made("comer(0, 60, 0)", "rule k7", "cost(0, 2, 0)", "sheet(2, " + form + ", 2)");
            Edges.due(x, "write(2)", 2);
            Edges.due(x, "get(2, " + form + ", 0)", 60);
            Edges.due(x, "get(2, " + form + ", 1)", 60);
        }
    }

    private static void p32BadAndNull() {
        Edges.at(32, "BAD; NULL.");
        Edges.refused("write(-1)", Edges.BAD);
        Edges.refused("write(4)", Edges.BAD);
        Edges.dueForEach(new HallMinutes(), "write(#)", Edges.FAR, Edges.BAD);
        Edges.finds("write(3)", Edges.NULL);
    }

    private static void p33Each() {
        Edges.at(33, "0 COMERS, 1 PLAIN ones (bits), 2 TOLD, 3 FINE, 4 FOOD, 5 bytes of THE RULE, 6 AIMS together, 7 all q together");
        HallMinutes x = Edges.made(Edges.busy());
        int[] want = {4, 9, 15, 6, 3, 7, 80, 13};
        for (int what = 0; what < want.length; what++) {
            Edges.due(x, "count(" + what + ")", want[what]);
        }
        HallMinutes most = Edges.hall("t|t|t|t|t|t|t|t|t|t|t|t|t|t|t|t|t|t|t|m5", 59, 60, 60, 60, 60, 60, 60, 60, 60);
        Edges.also(most, "set(1, 99)", "set(2, 99)");
        for (int comer = 0; comer < 8; comer++) {
            Edges.also(most, "cost(" + comer + ", 3, 15)");
        }
        int[] full = {8, 255, 59, 99, 99, 40, 480, 120, 0};
        for (int what = 0; what < full.length; what++) {
            Edges.due(most, "count(" + what + ")", full[what]);
        }
    }

    private static void p33LatestFinding() {
        Edges.at(33, "8 the number of the latest FINDING (0 before any).");
        HallMinutes x = new HallMinutes();
        Edges.due(x, "count(8)", 0);
        // Refusals that are no FINDINGS are not told here.
        Edges.also(x, "sheet(4, 0, 0)", "lose(4)", "put(0, 3, 0, 0)", "comer(3, 0, 0)", "week(61)");
        Edges.due(x, "count(8)", 0);
        Edges.also(x, "lose(0)");
        Edges.due(x, "count(8)", 1);
        Edges.also(x, "sheet(0, 0, 1)");
        Edges.due(x, "count(8)", 1);
        Edges.also(x, "get(0, 0, 1)");
        Edges.due(x, "count(8)", 2);
        Edges.also(x, "get(0, 0, 0)", "get(4, 0, 0)");
        Edges.due(x, "count(8)", 2);
        Edges.also(x, "put(0, 1, 0, 0)");
        Edges.due(x, "count(8)", 3);
        Edges.also(x, "sheet(1, 1, 1)", "copy(0, 0, 1, 0, 1)");
        Edges.due(x, "count(8)", 4);
        Edges.also(x, "sheet(1, 1, -1)");
        Edges.due(x, "count(8)", 5);
        Edges.also(x, "write(3)");
        Edges.due(x, "count(8)", 1);
    }

    private static void p33Findings() {
        Edges.at(33, "FINDINGS (answers -10 less the number; they change nothing but count() 8)");
        Edges.finds("lose(3)", -11);
        Edges.finds("put(0, 0, 3, 0)", -12);
        Edges.finds("put(0, 1, 0, 0)", -13);
        Edges.finds("copy(0, 0, 1, 0, 0)", -14);
        Edges.finds("sheet(0, 0, -1)", -15);
    }

    private static void p28NullIsLost() {
        Edges.at(28, "1 NULL: the SHEET is LOST;");
        for (String call : new String[] {"lose(1)", "read(1)", "write(1)", "put(1, 2, 0, 0)", "get(1, 2, 0)", "copy(1, 0, 0, 0, 0)",
            "copy(0, 0, 1, 0, 0)"}) {
            Edges.finds(new String[] {"comer(0, 7, 0)", "sheet(0, 2, 2)", "sheet(1, 2, 2)", "lose(1)"}, call, Edges.NULL);
        }
        // An empty one is not LOST.
        HallMinutes empty = Edges.made("comer(0, 7, 0)", "sheet(1, 2, 0)");
        Edges.due(empty, "read(1)", 0);
        Edges.due(empty, "write(1)", 0);
        Edges.due(empty, "put(1, 2, 0, 0)", Edges.INDEX);
        Edges.due(empty, "lose(1)", 0);
        Edges.due(empty, "read(1)", Edges.NULL);
    }

    private static void p30IndexIsNoSuchItem() {
        Edges.at(30, "2 INDEX: there is no such item;");
        for (int n : new int[] {0, 1, 63, 64}) {
            HallMinutes x = Edges.made("sheet(0, 0, " + n + ")");
            Edges.due(x, "put(0, 0, " + (n - 1) + ", 5)", n == 0 ? Edges.INDEX : 1);
            Edges.due(x, "put(0, 0, " + n + ", 5)", Edges.INDEX);
            Edges.due(x, "get(0, 0, " + (n - 1) + ")", n == 0 ? Edges.LEAST_INT : 5);
            Edges.due(x, "get(0, 0, " + n + ")", Edges.LEAST_INT);
            Edges.due(x, "count(8)", 2);
        }
    }

    private static void p29CastIsAnotherForm() {
        Edges.at(29, "3 CAST: it has another FORM;");
        for (int form = 0; form < 3; form++) {
            for (int other = 0; other < 3; other++) {
                HallMinutes x = Edges.made("sheet(0, " + form + ", 1)");
                Edges.due(x, "get(0, " + other + ", 0)", form == other ? 0 : Edges.LEAST_INT);
                Edges.due(x, "count(8)", form == other ? 0 : 3);
                Edges.due(x, "put(0, " + other + ", 0, 5)", form == other ? 1 : Edges.CAST);
            }
        }
    }

    private static void p31StoreIsUnlikeForms() {
        Edges.at(31, "4 STORE: unlike FORMS;");
        for (int form = 0; form < 3; form++) {
            for (int other = 0; other < 3; other++) {
                HallMinutes x = Edges.made("sheet(0, " + form + ", 1)", "sheet(1, " + other + ", 1)");
                Edges.due(x, "copy(0, 0, 1, 0, 1)", form == other ? 1 : Edges.STORE);
                Edges.due(x, "count(8)", form == other ? 0 : 4);
            }
        }
    }

    private static void p27SizeIsBelowNought() {
        Edges.at(27, "5 SIZE: below 0.");
        for (int form = 0; form < 3; form++) {
            HallMinutes x = new HallMinutes();
            Edges.due(x, "sheet(1, " + form + ", 0)", 0);
            Edges.due(x, "count(8)", 0);
            Edges.due(x, "sheet(1, " + form + ", -1)", Edges.SIZE);
            Edges.due(x, "count(8)", 5);
            Edges.due(x, "lose(1)", 0);
        }
    }

    private static void p33Bad() {
        Edges.at(33, "(0 before any). BAD.");
        Edges.refused("count(-1)", Edges.BAD);
        Edges.refused("count(9)", Edges.BAD);
        Edges.dueForEach(new HallMinutes(), "count(#)", Edges.FAR, Edges.BAD);
    }

    private static void p34Row() {
        Edges.at(34, "h is 17; h becomes 31 h and each of: count() 0 to 7;");
        Edges.due(new HallMinutes(), "digest()", Edges.digestOf(0, 0, 0, 0, 0, 0, 0, 0, 0, 60, -1, 60, 60, 60, 60, 0, 0, 0));
        // TOLD for 3 both wait for each other: up they stay at 0, down at 59; by 30 it begins if neither is late beyond that.
        HallMinutes two = Edges.hall("k0&k1", 3, 10, 30);
        Edges.also(two, "cost(0, 3, 4)", "cost(1, 3, 8)", "set(1, 1)", "set(2, 2)");
        Edges.due(two, "digest()", Edges.digestOf(2, 3, 3, 1, 2, 5, 40, 12, -1, 30, 10, 20 - 2 + 1, 30, 0 - 2 + 1, 0, 0, 59, 30, 30, 3, 2, 1));
        Edges.onlyAsks(Edges.busy(), "digest()");
    }

    private static void p34Wraps() {
        Edges.at(34, "as longs that wrap.");
        // Eight COMERS: 34 numbers, so that h goes far beyond a long.
        HallMinutes x = Edges.hall("m59", 0, 59, 59, 59, 59, 59, 59, 59, 59);
        Edges.also(x, "set(1, 99)");
        Edges.due(x, "digest()", Edges.digestOf(8, 255, 0, 99, 0, 3, 472, 0, -1, 59, 59, 99, 59, 99, 59, 99, 59, 99, 59, 99, 59, 99, 59, 99,
            59, 99, 0, 59, 59, 59, 59, 0, 255, 0));
    }

    private static void p34Refusals() {
        Edges.at(34, "climb(false, NONE), climb(true, NONE)");
        // Up it does not come to rest: NONE is one of the numbers.
        Edges.due(Edges.leaping("k0&k1", 0), "digest()",
            Edges.digestOf(3, 6, 0, 0, 0, 5, 0, 0, -1, 1, 1, 0, 0, 1, 0, 1, 1, -1, 60, 2, 3, 3, 1, 1));
    }

    private static void p34OddsByThirty() {
        Edges.at(34, "odds(30, 0); as longs that wrap.");
        // At 29 they are 0 by 1, at 30 they are 3 by 4, at 31 they are 1 by 1.
        HallMinutes x = Edges.hall("k0", 0, 30);
        Edges.also(x, "cost(0, 3, 4)", "cost(0, 4, 1)");
        Edges.due(x, "digest()", Edges.digestOf(1, 1, 0, 0, 0, 2, 30, 4, -1, 30, 30, 0, -1, 0, 59, 0, 0, 1, 1, 3));
    }
}
