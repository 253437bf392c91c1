import java.lang.reflect.Method;

/** What the Terms say of refusals at every act: their numbers, their order, and that nothing comes of them. */
final class EdgesOfRefusals {
    private static final int[] WILD = {Edges.LEAST_INT, Edges.LEAST_INT + 1, -65536, -129, -11, -5, -4, -3, -2, -1, 0, 1, 2, 3, 4, 5, 7, 8, 9,
        15, 16, 29, 30, 31, 39, 40, 41, 58, 59, 60, 61, 63, 64, 65, 99, 100, 255, 256, 999, 1000, 65536, Edges.MOST_INT - 1, Edges.MOST_INT};

    private EdgesOfRefusals() {
    }

    static void run() {
        p1Constants();
        p1FirstThatFits();
        p1NoSuchThing();
        p1TheyChangeNothing();
        p1AnyNumberInAnyState();
    }

    private static void constant(String name, long got, long want) {
        Edges.asked++;
        if (got != want) {
            Edges.fails(name + " is " + got + ", due is " + want);
        }
    }

    private static void p1Constants() {
        Edges.at(1, "BAD -2 (a number not as told, no such thing), NULL, NOT -3 (as told), FULL -4, other FINDINGS.");
        constant("NONE", HallMinutes.NONE, -1);
        constant("BAD", HallMinutes.BAD, -2);
        constant("NOT", HallMinutes.NOT, -3);
        constant("FULL", HallMinutes.FULL, -4);
    }

    private static void p1FirstThatFits() {
        Edges.at(1, "Refusals, the first that fits, in the order told at each act");
        HallMinutes full = Edges.hall("t|t|t|t|t|t|t|t|t|t|t|t|t|t|t|t|t|t|t|m5", 0, 1, 2, 3, 4, 5, 6, 7, 8);
        Edges.due(full, "comer(0, 61, 0)", Edges.BAD);
        Edges.due(full, "comer(0, 60, 0)", Edges.FULL);
        Edges.due(full, "type(256)", Edges.BAD);
        Edges.due(full, "type(255)", Edges.FULL);
        Edges.due(full, "rests(31, 0, 0)", Edges.BAD);
        Edges.due(full, "rests(30, 0, 0)", Edges.FULL);
        Edges.due(full, "lost(31, 0)", -10000);
        Edges.due(full, "lost(30, 0)", -10001);
        Edges.due(full, "sheet(0, 3, -1)", Edges.BAD);
        Edges.due(full, "sheet(0, 2, -1)", Edges.SIZE);
        Edges.due(full, "put(0, 3, -1, 0)", Edges.BAD);
        Edges.due(full, "put(0, 2, -1, 0)", Edges.NULL);
        Edges.also(full, "sheet(0, 1, 1)", "sheet(1, 2, 1)");
        Edges.due(full, "put(0, 2, -1, 0)", Edges.CAST);
        Edges.due(full, "put(0, 1, -1, 0)", Edges.INDEX);
        Edges.due(full, "copy(0, -1, 4, 0, 0)", Edges.BAD);
        Edges.due(full, "copy(0, -1, 3, 0, 0)", Edges.NULL);
        Edges.due(full, "copy(0, -1, 1, 0, 0)", Edges.STORE);
        Edges.due(full, "copy(0, -1, 0, 0, 0)", Edges.INDEX);
    }

    private static void p1NoSuchThing() {
        Edges.at(1, "BAD -2 (a number not as told, no such thing)");
        // Comers who are not there: none of the calls that ask for one has an answer.
        String[] calls = {"aim(#, 5)", "cost(#, 0, 5)", "comes(#)", "best(#, false)", "best(#, true)", "climb(false, #)", "climb(true, #)",
            "rests(30, 0, #)", "sure(#)"};
        for (String call : calls) {
            Edges.dueForEach(new HallMinutes(), call, new int[] {Edges.LEAST_INT, -2, 0, 1, 7, 8, Edges.MOST_INT}, Edges.BAD);
            Edges.dueForEach(Edges.hall("t", 0, 1), call, new int[] {Edges.LEAST_INT, -2, 1, 7, 8, Edges.MOST_INT}, Edges.BAD);
            Edges.dueForEach(Edges.hall("t", 0, 1, 2, 3), call, new int[] {Edges.LEAST_INT, -2, 3, 7, 8, Edges.MOST_INT}, Edges.BAD);
        }
    }

    private static void p1TheyChangeNothing() {
        Edges.at(1, "They change nothing (FINDINGS but count() 8).");
        String[] refused = {"comer(0, 61, 0)", "aim(0, 61)", "aim(1, 5)", "read(4)", "cost(0, 0, 100)", "cost(2, 3, 1)", "set(0, 60)", "type(256)",
            "comes(4)", "best(1, true)", "climb(true, 1)", "rests(30, 0, 1)", "week(61)", "round(2)", "moved(60)", "keys(2)", "sure(1)",
            "sheet(0, 0, 65)", "lose(4)", "put(4, 0, 0, 5)", "copy(4, 0, 0, 0, 1)", "write(4)", "count(9)"};
        for (String call : refused) {
            Edges.refused(call, Edges.BAD);
        }
        Edges.refused("pays(4)", -10000);
        Edges.refused("lost(31, 0)", -10000);
        Edges.refused("odds(60, 0)", Edges.BAD_LONG);
        Edges.refused("mean(4, 0)", Edges.BAD_LONG);
        Edges.refused("get(4, 0, 0)", Edges.LEAST_INT);
        Edges.finds("read(3)", Edges.NULL);
        Edges.finds("write(3)", Edges.NULL);
        Edges.finds("lose(3)", Edges.NULL);
        Edges.finds("put(0, 0, 3, 5)", Edges.INDEX);
        Edges.finds("get(0, 2, 0)", Edges.CAST);
        Edges.finds("copy(0, 0, 1, 0, 1)", Edges.STORE);
        Edges.finds("sheet(0, 0, -1)", Edges.SIZE);
    }

    /** No call may throw; what each answers is held against the model elsewhere. */
    private static void p1AnyNumberInAnyState() {
        Edges.at(1, "(a number not as told, no such thing)");
        String[][] states = {{}, Edges.busy(), {"rule t|", "comer(2, 30, 7)", "comer(2, 1, 1)"}, {"comer(0, 1, 0)", "comer(0, 2, 0)",
            "comer(0, 3, 0)", "comer(0, 4, 0)", "comer(0, 5, 0)", "comer(0, 6, 0)", "comer(0, 7, 0)", "comer(0, 60, 0)", "rule n8|m59&k7"}};
        for (Method method : HallMinutes.class.getMethods()) {
            if (method.getDeclaringClass() != HallMinutes.class) {
                continue;
            }
            for (String[] state : states) {
                wildCalls(method, state);
            }
        }
    }

    private static void wildCalls(Method method, String[] state) {
        int many = method.getParameterCount();
        for (int place = 0; place < Math.max(1, many); place++) {
            for (int usual = 0; usual < 2; usual++) {
                HallMinutes x = Edges.made(state);
                for (int wild : WILD) {
                    StringBuilder call = new StringBuilder(method.getName()).append('(');
                    for (int i = 0; i < many; i++) {
                        boolean either = method.getParameterTypes()[i] == boolean.class;
                        int number = i == place ? wild : usual;
                        call.append(i == 0 ? "" : ", ").append(either ? String.valueOf(number > 0) : String.valueOf(number));
                    }
                    Edges.ask(x, call.append(')').toString());
                }
            }
        }
    }
}
