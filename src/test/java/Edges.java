import java.lang.reflect.InvocationTargetException;
import java.lang.reflect.Method;
import java.math.BigInteger;
import java.util.ArrayList;
import java.util.HashMap;
import java.util.IdentityHashMap;
import java.util.List;
import java.util.Map;

/**
 * What the tests of boundary sentences share. A test begins with at(promise, sentence): the promise's
 * number and the document's own words, by which both can be found again; every answer behind it is due
 * by that sentence. Calls are written as the document and the issues write them: "comer(0, 20, 0)".
 */
final class Edges {
    static final int NONE = -1, BAD = -2, FULL = -4;
    static final int NULL = -11, INDEX = -12, CAST = -13, STORE = -14, SIZE = -15;
    static final int LEAST_INT = Integer.MIN_VALUE, MOST_INT = Integer.MAX_VALUE;
    static final long BAD_LONG = Long.MIN_VALUE + 2;
    static final int[] FAR = {LEAST_INT, -10001, -61, -2, 256, 10000, MOST_INT};

    /** Each test that was begun: its promise, and its sentence. */
    static final List<Integer> PROMISES = new ArrayList<>();
    static final List<String> SENTENCES = new ArrayList<>();
    static int asked = 0;
    static int wrong = 0;

    private static final int CALLS_OF_AN_OBJECT = 512;
    private static final Map<String, Method> METHODS = new HashMap<>();
    private static final Map<HallMinutes, Integer> CALLS = new IdentityHashMap<>();

    static {
        for (Method m : HallMinutes.class.getMethods()) {
            if (m.getDeclaringClass() == HallMinutes.class) {
                METHODS.put(m.getName(), m);
            }
        }
    }

    private Edges() {
    }

    static void at(int promise, String sentence) {
        PROMISES.add(promise);
        SENTENCES.add(sentence);
        CALLS.clear();
    }

    static void fails(String what) {
        wrong++;
        int last = PROMISES.size() - 1;
        System.out.println("promise " + PROMISES.get(last) + ", \"" + SENTENCES.get(last) + "\": " + what);
    }

    /** What a call, written as a text, answers. */
    static long ask(HallMinutes x, String call) {
        int open = call.indexOf('(');
        Method method = METHODS.get(call.substring(0, open));
        String inside = call.substring(open + 1, call.length() - 1).trim();
        String[] texts = inside.isEmpty() ? new String[0] : inside.split(", *");
        Object[] arguments = new Object[texts.length];
        for (int i = 0; i < texts.length; i++) {
            boolean either = method.getParameterTypes()[i] == boolean.class;
            arguments[i] = either ? (Object) Boolean.valueOf(texts[i]) : (Object) Integer.valueOf(texts[i]);
        }
        if (CALLS.merge(x, 1, Integer::sum) > CALLS_OF_AN_OBJECT) {
            fails("the test asks more of one object than the document allows");
        }
        try {
            return ((Number) method.invoke(x, arguments)).longValue();
        } catch (InvocationTargetException thrown) {
            fails(call + " threw " + thrown.getCause());
            return Long.MAX_VALUE;
        } catch (IllegalAccessException closed) {
            throw new IllegalStateException(closed);
        }
    }

    static void due(HallMinutes x, String call, long want) {
        asked++;
        long got = ask(x, call);
        if (got != want) {
            fails(call + " answered " + got + ", due is " + want);
        }
    }

    /** Each of some numbers put for # in a call has the same answer. */
    static void dueForEach(HallMinutes x, String call, int[] numbers, long want) {
        for (int number : numbers) {
            due(x, call.replace("#", Integer.toString(number)), want);
        }
    }

    /** Does calls one after the other; "rule t&n2" wipes THE RULE and types that text. */
    static HallMinutes also(HallMinutes x, String... calls) {
        for (String call : calls) {
            if (call.startsWith("rule ")) {
                rule(x, call.substring(5));
            } else {
                ask(x, call);
            }
        }
        return x;
    }

    static HallMinutes made(String... calls) {
        return also(new HallMinutes(), calls);
    }

    static void rule(HallMinutes x, String text) {
        ask(x, "wipe()");
        for (int i = 0; i < text.length(); i++) {
            ask(x, "type(" + (int) text.charAt(i) + ")");
        }
    }

    /** A RULE, what is TOLD, and PLAIN COMERS by their AIMS. */
    static HallMinutes hall(String text, int told, int... aims) {
        HallMinutes x = new HallMinutes();
        for (int aim : aims) {
            x.comer(0, aim, 0);
        }
        x.set(0, told);
        rule(x, text);
        return x;
    }

    /** COMER 0 looks for the first to come, a minute behind it; 1 and 2 are PLAIN and leap over each other. */
    static HallMinutes leaping(String text, int told) {
        return made("comer(2, 1, 1)", "comer(0, 0, 0)", "comer(0, 0, 0)", "set(0, " + told + ")", "rule " + text);
    }

    /** An object in which everything is other than at first: the state behind which refusals are looked at. */
    static String[] busy() {
        return new String[] {"comer(0, 20, 0)", "comer(1, 0, 0)", "comer(2, 4, 2)", "comer(0, 60, 0)", "set(0, 15)", "set(1, 6)",
            "set(2, 3)", "cost(0, 0, 2)", "cost(0, 1, 3)", "cost(0, 2, 77)", "cost(0, 3, 4)", "cost(1, 3, 9)", "cost(1, 4, 12)",
            "cost(2, 2, 55)", "cost(3, 4, 30)", "rule n2&t|k3", "sheet(0, 0, 3)", "put(0, 0, 0, 7)", "put(0, 0, 1, -9)", "put(0, 0, 2, 61)",
            "sheet(1, 2, 2)", "put(1, 2, 1, 123456789)", "sheet(2, 1, 0)", "put(0, 1, 0, 0)"};
    }

    /** An answer, and that the call left everything as it was: two objects of like making, the call done to one of them. */
    static void changesNothing(String[] making, String call, long want) {
        HallMinutes without = made(making);
        HallMinutes with = made(making);
        due(with, call, want);
        due(with, "count(8)", without.count(8));
        comparePictures(call, picture(without), picture(with));
    }

    /** Questions change nothing, whatever they answer. */
    static void onlyAsks(String[] making, String... calls) {
        for (String call : calls) {
            changesNothing(making, call, ask(made(making), call));
        }
    }

    static void refused(String call, long want) {
        changesNothing(busy(), call, want);
    }

    /** A FINDING changes nothing but count() 8. */
    static void finds(String[] making, String call, int finding) {
        boolean asItem = call.startsWith("get(");
        HallMinutes without = made(making);
        HallMinutes with = made(making);
        due(with, call, asItem ? LEAST_INT : finding);
        due(with, "count(8)", -10 - finding);
        comparePictures(call, picture(without), picture(with));
    }

    static void finds(String call, int finding) {
        finds(busy(), call, finding);
    }

    private static void comparePictures(String call, List<String> before, List<String> behind) {
        for (int i = 0; i < before.size() || i < behind.size(); i++) {
            String a = i < before.size() ? before.get(i) : "nothing";
            String b = i < behind.size() ? behind.get(i) : "nothing";
            if (!a.equals(b)) {
                fails(call + " changed " + a + " to " + b);
                return;
            }
        }
    }

    /** All that can be seen of an object (but for count() 8); the object is spent behind it. */
    static List<String> picture(HallMinutes x) {
        List<String> seen = new ArrayList<>();
        for (int what = 0; what <= 7; what++) {
            see(seen, x, "count(" + what + ")");
        }
        see(seen, x, "fault()");
        see(seen, x, "begins()");
        see(seen, x, "digest()");
        for (int comer = 0; comer < x.count(0); comer++) {
            see(seen, x, "comes(" + comer + ")");
            see(seen, x, "pays(" + comer + ")");
            see(seen, x, "mean(" + comer + ", 0)");
            see(seen, x, "best(" + comer + ", true)");
        }
        for (int comer = 0; comer < x.count(0); comer++) {
            for (int what = 0; what < 5; what++) {
                see(seen, x, "cost(" + comer + ", " + what + ", 1)");
            }
            see(seen, x, "aim(" + comer + ", 1)");
        }
        for (int s = 0; s < 4; s++) {
            seeSheet(seen, x, s);
        }
        see(seen, x, "wipe()");
        return seen;
    }

    private static void seeSheet(List<String> seen, HallMinutes x, int s) {
        for (int form = 0; form < 3; form++) {
            x.get(s, form, 64);
            seen.add("finding " + x.count(8) + " of sheet " + s + " as form " + form);
            boolean hasForm = x.count(8) == 2;
            for (int i = 0; hasForm && x.copy(s, i, s, i, 1) == 1; i++) {
                see(seen, x, "get(" + s + ", " + form + ", " + i + ")");
            }
        }
        see(seen, x, "lose(" + s + ")");
    }

    private static void see(List<String> seen, HallMinutes x, String call) {
        seen.add(call + " = " + ask(x, call));
    }

    /** The number h becomes by each of a row, without any wrapping till the very end. */
    static long digestOf(long... row) {
        BigInteger h = BigInteger.valueOf(17);
        for (long each : row) {
            h = h.multiply(BigInteger.valueOf(31)).add(BigInteger.valueOf(each));
        }
        return h.longValue();
    }
}
