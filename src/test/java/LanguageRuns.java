import java.lang.reflect.Executable;
import java.lang.reflect.Field;
import java.lang.reflect.Method;
import java.lang.reflect.Modifier;
import java.nio.charset.StandardCharsets;
import java.nio.file.Files;
import java.nio.file.Path;
import java.util.ArrayList;
import java.util.Arrays;
import java.util.HashSet;
import java.util.List;
import java.util.Map;
import java.util.Set;
import java.util.TreeMap;
import java.util.TreeSet;
import java.util.regex.Matcher;
import java.util.regex.Pattern;

/** What of LANGUAGE.md can be seen without reading: the face, the words, the sizes. */
public final class LanguageRuns {
    private static final String SOURCE = "src/main/java/HallMinutes.java";
    private static final String[] FACE = {
        "int comer(int,int,int)", "int aim(int,int)", "int read(int)", "int cost(int,int,int)", "int set(int,int)", "int type(int)",
        "int wipe()", "int fault()", "int begins()", "int comes(int)", "int pays(int)", "int best(int,boolean)", "int restless()",
        "int climb(boolean,int)", "int rests(int,int,int)", "int lost(int,int)", "int week(int)", "int round(int)", "int moved(int)",
        "int least(boolean)", "int keys(int)", "int guests()", "long odds(int,int)", "long mean(int,int)", "int sure(int)",
        "int sheet(int,int,int)", "int lose(int)", "int put(int,int,int,int)", "int get(int,int,int)", "int copy(int,int,int,int,int)",
        "int write(int)", "int count(int)", "long digest()"};
    private static int wrong = 0;
    private static int asked = 0;

    private static void holds(boolean so, String what) {
        asked++;
        if (!so) {
            wrong++;
            System.out.println("not so: " + what);
        }
    }

    private static String headOf(Method m) {
        StringBuilder head = new StringBuilder(m.getReturnType() + " " + m.getName() + "(");
        for (Class<?> p : m.getParameterTypes()) {
            head.append(head.charAt(head.length() - 1) == '(' ? "" : ",").append(p);
        }
        return head.append(')').toString();
    }

    private static void face() {
        Class<?> face = HallMinutes.class;
        holds(face.getModifiers() == (Modifier.PUBLIC | Modifier.FINAL), "the class is public and final");
        Set<String> open = new TreeSet<>();
        Set<String> names = new HashSet<>();
        for (Method m : face.getDeclaredMethods()) {
            if (Modifier.isPublic(m.getModifiers())) {
                open.add(headOf(m));
                names.add(m.getName());
                holds(!Modifier.isStatic(m.getModifiers()), m + " is no static method");
            } else {
                holds(Modifier.isPrivate(m.getModifiers()), m + " is private");
            }
        }
        holds(open.equals(new TreeSet<>(Arrays.asList(FACE))), "the public methods are the document's: " + open);
        Set<String> constants = new TreeSet<>();
        for (Field f : face.getDeclaredFields()) {
            if (Modifier.isPublic(f.getModifiers())) {
                constants.add(f.getName());
            } else {
                holds(Modifier.isPrivate(f.getModifiers()), f + " is private");
            }
        }
        holds(constants.equals(new TreeSet<>(Arrays.asList("NONE", "BAD", "NOT", "FULL"))), "the public constants are the document's");
        holds(face.getDeclaredConstructors().length == 1, "there is one constructor");
        List<Class<?>> classes = new ArrayList<>(Arrays.asList(face.getDeclaredClasses()));
        holds(classes.size() <= 11, "there are not too many classes");
        for (Class<?> inside : classes) {
            holds(Modifier.isStatic(inside.getModifiers()) && !Modifier.isPublic(inside.getModifiers()), inside + " is static and not public");
            holds(inside.getDeclaredClasses().length == 0, inside + " has no class inside");
        }
        classes.add(face);
        for (Class<?> each : classes) {
            sizes(each, names);
        }
    }

    private static void sizes(Class<?> each, Set<String> publicNames) {
        int fields = 0;
        for (Field f : each.getDeclaredFields()) {
            if (Modifier.isStatic(f.getModifiers())) {
                holds(Modifier.isFinal(f.getModifiers()), f + " is final");
            } else {
                fields++;
            }
        }
        holds(fields <= 20, each + " has not too many fields");
        List<Executable> all = new ArrayList<>(Arrays.asList(each.getDeclaredMethods()));
        all.addAll(Arrays.asList(each.getDeclaredConstructors()));
        for (Executable e : all) {
            holds(e.getParameterCount() <= 7, e + " has seven parameters at most");
            boolean ofFace = each == HallMinutes.class && Modifier.isPublic(e.getModifiers());
            holds(ofFace || !publicNames.contains(e.getName()), e + " has a name of its own");
        }
    }

    private static String withoutComments(String source) {
        return source.replaceAll("(?s)/\\*.*?\\*/", "").replaceAll("//[^\n]*", "");
    }

    private static void words(String code) {
        String[] ruledOut = {"throw", "throws", "try", "catch", "finally", "synchronized", "assert", "import", "package", "protected",
            "native", "volatile", "transient", "Object", "Arrays", "System.out", "double", "float", "hashCode", "equals", "toString",
            "Exact", "Random", "Thread", "Runtime", "nanoTime", "currentTimeMillis", "getClass"};
        for (String word : ruledOut) {
            holds(!Pattern.compile("(?<![A-Za-z])" + Pattern.quote(word) + "(?![A-Za-z])").matcher(code).find(), "no " + word);
        }
        holds(!code.contains("->") && !code.contains("::"), "no lambda, no method reference");
        holds(!code.contains("\""), "no text is needed");
        Matcher library = Pattern.compile("\\b(System|Math|Integer|Long)\\.(\\w+)").matcher(code);
        Set<String> known = Set.of("System.arraycopy", "Math.abs", "Math.min", "Math.max", "Integer.bitCount");
        while (library.find()) {
            holds(known.contains(library.group()), library.group() + " stands in the list");
        }
        for (char sign : code.toCharArray()) {
            if (sign != '\n' && (sign < 32 || sign > 126)) {
                holds(false, "only plain signs");
            }
        }
    }

    /** Nothing is made but by constructors: a call makes no object and no row. */
    private static void makesNothing(String code) {
        String method = "";
        for (String line : code.split("\n")) {
            Matcher head = Pattern.compile("^(?: {4}| {8})(?:[\\w\\[\\]]+ )*(\\w+)\\([^;]*\\) \\{$").matcher(line);
            if (head.find()) {
                method = head.group(1);
            } else if (line.matches("^(?: {4}| {8})\\}.*")) {
                method = "";
            }
            if (line.contains("new ")) {
                holds(method.isEmpty() || Character.isUpperCase(method.charAt(0)), "nothing is made in " + method);
            }
        }
    }

    private static void lengths(String source) {
        int start = 0;
        String[] lines = source.split("\n");
        for (int i = 0; i < lines.length; i++) {
            if (lines[i].matches("^(?: {4}| {8})\\S.*\\) \\{$")) {
                start = i;
            } else if (lines[i].matches("^(?: {4}| {8})\\}$")) {
                holds(i - start < 60 || lines[start].contains("class "), "short enough: " + lines[start].trim());
            }
        }
    }

    /** Which methods each method calls, by name; two of one name in two classes are taken for one. */
    private static Map<String, Set<String>> calls(String code) {
        Map<String, Set<String>> called = new TreeMap<>();
        String method = "";
        Matcher word = Pattern.compile("(?m)^(?: {4}| {8})(?!new|return|if|for|while|switch)(?:[\\w\\[\\]]+ )+(\\w+)\\([^;]*?\\) \\{$|\\b([a-z]\\w*)\\(").matcher(code);
        while (word.find()) {
            if (word.group(1) != null) {
                method = word.group(1);
                called.putIfAbsent(method, new TreeSet<>());
            } else if (!method.isEmpty()) {
                called.get(method).add(word.group(2));
            }
        }
        called.values().forEach(each -> each.retainAll(called.keySet()));
        return called;
    }

    private static int depth(Map<String, Set<String>> calls, String method, int open) {
        int deepest = open;
        for (String next : open > 20 ? new TreeSet<String>() : calls.get(method)) {
            deepest = Math.max(deepest, depth(calls, next, open + 1));
        }
        return deepest;
    }

    /** The method that was called is counted, too; one that calls itself again would come out deeper than 20. */
    private static void depths(String code) {
        Map<String, Set<String>> calls = calls(code);
        holds(calls.size() > FACE.length && calls.get("settle").contains("callLookers"), "the calls are seen: " + calls);
        for (String method : calls.keySet()) {
            int deep = depth(calls, method, 1);
            holds(deep <= 8, method + " goes eight deep at most, but goes " + deep);
        }
    }

    public static void main(String[] args) throws Exception {
        String source = new String(Files.readAllBytes(Path.of(SOURCE)), StandardCharsets.UTF_8);
        face();
        words(withoutComments(source));
        makesNothing(withoutComments(source));
        lengths(source);
        depths(withoutComments(source));
        System.out.println(asked + " rules of the language looked at, " + wrong + " broken");
        if (wrong != 0) {
            System.exit(1);
        }
    }
}
