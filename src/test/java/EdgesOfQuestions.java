/** What is only asked, or refused, leaves no trace: whatever was asked before, each question has the same answer. */
final class EdgesOfQuestions {
    private static final String[] QUESTIONS = {"fault()", "begins()", "comes(0)", "comes(2)", "comes(7)", "pays(-1)", "pays(1)", "pays(7)",
        "best(0, false)", "best(0, true)", "best(7, false)", "best(7, true)", "restless()", "climb(false, -1)", "climb(true, -1)", "climb(true, 0)",
        "climb(false, 7)", "rests(30, -1, -1)", "rests(15, -1, -1)", "rests(15, 0, 0)", "rests(20, 1, 7)", "lost(30, -1)", "lost(15, 0)", "week(0)",
        "week(1)", "week(60)", "round(0)", "round(1)", "moved(20)", "least(false)", "least(true)", "keys(0)", "keys(1)", "guests()", "odds(9, 0)",
        "odds(30, 1)", "mean(0, 0)", "mean(7, 0)", "sure(0)", "sure(7)", "count(1)", "count(2)", "count(3)", "count(4)", "count(6)", "digest()",
        "comer(3, 0, 0)", "aim(0, 61)", "cost(0, 0, 100)", "set(0, 60)", "type(256)", "read(4)", "write(3)", "lose(3)",
        "put(3, 0, 0, 5)", "get(3, 0, 0)", "copy(3, 0, 3, 0, 1)", "sheet(3, 0, -1)"};

    private EdgesOfQuestions() {
    }

    static void run() {
        p15NothingIsLeftBehind();
    }

    private static String[][] states() {
        return new String[][] {
            Edges.busy(),
            {"comer(0, 1, 0)", "comer(2, 1, 1)", "comer(2, 3, 2)", "comer(1, 0, 0)", "comer(2, 5, 1)", "comer(0, 8, 0)", "comer(1, 0, 0)",
                "comer(0, 30, 0)", "set(0, 9)", "set(1, 4)", "set(2, 2)", "cost(0, 3, 4)", "cost(7, 3, 8)", "cost(3, 3, 2)", "rule n6&k7|k2&m50"},
            {"comer(0, 1, 0)", "comer(0, 2, 0)", "comer(1, 0, 0)", "comer(2, 1, 1)", "comer(0, 3, 0)", "comer(0, 4, 0)", "comer(0, 5, 0)",
                "comer(0, 6, 0)", "set(0, 9)", "cost(7, 2, 5)", "cost(6, 3, 1)", "rule n8|t&n7"},
            {"comer(0, 1, 0)", "comer(2, 1, 1)", "comer(2, 2, 3)", "comer(0, 20, 0)", "comer(0, 40, 0)", "set(0, 38)", "rule k1&t|k2"}};
    }

    private static void p15NothingIsLeftBehind() {
        Edges.at(15, "(AIMS are as they were behind it.)");
        for (String[] state : states()) {
            for (String second : QUESTIONS) {
                long alone = Edges.ask(Edges.made(state), second);
                for (String first : QUESTIONS) {
                    Edges.due(Edges.also(Edges.made(state), first), second, alone);
                }
            }
        }
    }
}
