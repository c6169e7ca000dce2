import java.io.IOException;
import java.lang.reflect.Array;
import java.lang.reflect.Constructor;
import java.lang.reflect.Field;
import java.lang.reflect.Method;
import java.lang.reflect.Modifier;
import java.nio.file.Files;
import java.nio.file.Path;
import java.util.ArrayList;
import java.util.Arrays;
import java.util.Collections;
import java.util.IdentityHashMap;
import java.util.List;
import java.util.Map;
import java.util.Set;
import java.util.TreeMap;
import java.util.TreeSet;
import java.util.regex.Matcher;
import java.util.regex.Pattern;

/** The face of SiteCuts, and what of ../shared/LANGUAGE.md can be seen from its text or its members. */
public final class LanguageTest {
    private static final String[] METHODS = {
        "int addSite(int)", "int addCustomer(int)", "int setPrice(int, int)", "int setDemand(int, int)",
        "int setRoute(int, int, int)", "int setMost(int)", "int exclude(int, int, boolean)", "int step()",
        "int solve()", "int readCut()", "int drop(int)", "int dropLoose()", "int type(char)", "int clearText()",
        "int undo()", "int keep()", "int restore()", "int judge(int)", "int plan(int, int)",
        "int serves(int, int)", "int cut(int, int)", "int weight(int, int)", "int value(int, int)",
        "int master(int)", "int byAll(int)", "int count(int)"};
    private static final String[] CONSTANTS = {
        "UNKNOWN = -1", "BAD_VALUE = -2", "FULL = -3", "NOT_POSSIBLE = -4", "NONE = -5"};
    private static final String[] FORBIDDEN_WORDS = {
        "throw", "throws", "try", "catch", "finally", "synchronized", "assert", "import", "package", "native",
        "volatile", "transient", "protected", "strictfp", "Object", "Exception", "Error", "Thread", "Random",
        "hashCode", "toString", "var"};

    private static int wrong;

    private static void demand(boolean holds, String what) {
        if (!holds) {
            wrong++;
            System.out.println("not so: " + what);
        }
    }

    public static void main(String[] args) throws IOException, IllegalAccessException {
        face();
        for (Class<?> inner : SiteCuts.class.getDeclaredClasses()) {
            demand(Modifier.isStatic(inner.getModifiers()), inner + " is static");
            demand(!Modifier.isPublic(inner.getModifiers()), inner + " is not public");
            fields(inner);
        }
        fields(SiteCuts.class);
        room();
        demand(SiteCuts.class.getDeclaredClasses().length <= 11, "there are at most 12 classes");
        text();
        System.out.println(wrong == 0 ? "the face and the language are as due" : wrong + " faults");
        if (wrong != 0) {
            System.exit(1);
        }
    }

    private static void face() throws IllegalAccessException {
        int modifiers = SiteCuts.class.getModifiers();
        demand(Modifier.isPublic(modifiers) && Modifier.isFinal(modifiers), "the class is public and final");
        TreeSet<String> open = new TreeSet<>();
        TreeSet<String> names = new TreeSet<>();
        for (Method method : SiteCuts.class.getDeclaredMethods()) {
            if (Modifier.isPublic(method.getModifiers())) {
                names.add(method.getName());
                open.add(told(method));
            } else {
                demand(Modifier.isPrivate(method.getModifiers()) || method.isSynthetic(), method + " is private");
            }
        }
        demand(open.equals(new TreeSet<>(Arrays.asList(METHODS))), "the public methods are those of the document: " + open);
        for (Class<?> holder : allClasses()) {
            for (Method method : holder.getDeclaredMethods()) {
                boolean isOpen = holder == SiteCuts.class && Modifier.isPublic(method.getModifiers());
                demand(isOpen || !names.contains(method.getName()), method + " does not bear a public name");
                demand(method.getParameterCount() <= 7, method + " takes at most seven parameters");
            }
        }
        Constructor<?>[] constructors = SiteCuts.class.getDeclaredConstructors();
        demand(constructors.length == 1 && constructors[0].getParameterCount() == 0
            && Modifier.isPublic(constructors[0].getModifiers()), "there is just the public constructor");
        TreeSet<String> constants = new TreeSet<>();
        for (Field field : SiteCuts.class.getDeclaredFields()) {
            if (Modifier.isPublic(field.getModifiers())) {
                demand(Modifier.isStatic(field.getModifiers()) && Modifier.isFinal(field.getModifiers()),
                    field + " is a constant");
                constants.add(field.getName() + " = " + field.getInt(null));
            } else {
                demand(Modifier.isPrivate(field.getModifiers()), field + " is private");
            }
        }
        demand(constants.equals(new TreeSet<>(Arrays.asList(CONSTANTS))), "the constants: " + constants);
    }

    private static List<Class<?>> allClasses() {
        List<Class<?>> all = new ArrayList<>(Arrays.asList(SiteCuts.class.getDeclaredClasses()));
        all.add(SiteCuts.class);
        return all;
    }

    private static String told(Method method) {
        StringBuilder text = new StringBuilder(method.getReturnType() + " " + method.getName() + "(");
        for (Class<?> parameter : method.getParameterTypes()) {
            text.append(text.charAt(text.length() - 1) == '(' ? "" : ", ").append(parameter);
        }
        return text.append(")").toString();
    }

    private static void fields(Class<?> holder) {
        int own = 0;
        for (Field field : holder.getDeclaredFields()) {
            boolean isStatic = Modifier.isStatic(field.getModifiers());
            demand(!isStatic || Modifier.isFinal(field.getModifiers()), field + " is final, as it is static");
            own += isStatic ? 0 : 1;
        }
        demand(own <= 20, holder + " has at most twenty fields");
    }

    private static void text() throws IOException {
        String whole = Files.readString(Path.of("src/main/java/SiteCuts.java"));
        String code = whole.replaceAll("(?s)/\\*.*?\\*/", " ").replaceAll("//[^\n]*", " ");
        for (String word : FORBIDDEN_WORDS) {
            demand(!Pattern.compile("\\b" + word + "\\b").matcher(code).find(), "the word " + word + " is not used");
        }
        demand(!code.contains("->") && !code.contains("::"), "there is no lambda and no method reference");
        demand(!code.contains("\""), "there is no text");
        Matcher library = Pattern.compile("\\b(Integer|Long|Math|System|Arrays|List|String)\\.(\\w+)").matcher(code);
        while (library.find()) {
            String used = library.group();
            demand(List.of("Integer.bitCount", "Math.max", "Math.min").contains(used), used + " is of the library");
        }
        int sign = 0;
        while (sign < whole.length() && whole.charAt(sign) < 127) {
            sign++;
        }
        demand(sign == whole.length(), "all signs of the file are plain ones");
        methodsAreShort(whole);
        readMethods(code);
    }

    private static void methodsAreShort(String whole) {
        int opened = -1;
        String[] lines = whole.split("\n");
        for (int line = 0; line < lines.length; line++) {
            boolean isHead = lines[line].matches(" {4}( {4})?[\\w\\[\\] ]+\\([^;]*\\) \\{");
            opened = isHead ? line : opened;
            boolean isEnd = lines[line].matches(" {4}( {4})?\\}");
            demand(!isEnd || opened < 0 || line - opened < 60, "the method of line " + (opened + 1) + " is short");
            opened = isEnd ? -1 : opened;
            demand(lines[line].length() <= 120, "line " + (line + 1) + " is short");
        }
    }

    // ---- what is made, and how deep calls go

    /** Objects are made in constructors alone, so that no call but these takes room; calls go at most eight deep. */
    private static void readMethods(String code) {
        Map<String, Set<String>> calls = new TreeMap<>();
        Matcher heads = Pattern.compile("(?m)^ {4}(?: {4})?(?!return|else)(?:[\\w\\[\\]]+ )*(\\w+)\\([^;()]*\\) \\{$")
            .matcher(code);
        List<Integer> headStarts = new ArrayList<>();
        List<Integer> headEnds = new ArrayList<>();
        List<String> names = new ArrayList<>();
        while (heads.find()) {
            headStarts.add(heads.start());
            headEnds.add(heads.end());
            names.add(heads.group(1));
        }
        headStarts.add(code.length());
        for (int i = 0; i < headEnds.size(); i++) {
            String body = code.substring(headEnds.get(i), headStarts.get(i + 1));
            boolean isConstructor = Character.isUpperCase(names.get(i).charAt(0));
            demand(isConstructor || !Pattern.compile("\\bnew\\b").matcher(body).find(), names.get(i) + "() makes nothing");
            Set<String> called = calls.computeIfAbsent(names.get(i), name -> new TreeSet<>());
            Matcher uses = Pattern.compile("\\b([a-z]\\w*)\\(").matcher(body);
            while (uses.find()) {
                called.add(uses.group(1));
            }
        }
        demand(names.size() > METHODS.length, "methods are found: " + names.size());
        for (String name : calls.keySet()) {
            int depth = depth(name, calls, 0);
            demand(depth <= 8, name + "() goes " + depth + " deep");
        }
    }

    /** Names that several classes share are taken together; what bears the same name again is not counted. */
    private static int depth(String name, Map<String, Set<String>> calls, int above) {
        int deepest = 0;
        for (String called : calls.getOrDefault(name, Set.of())) {
            if (!called.equals(name) && above < 20 && calls.containsKey(called)) {
                deepest = Math.max(deepest, depth(called, calls, above + 1));
            }
        }
        return deepest + 1;
    }

    /** The room of one object: some 600,000 objects and 7.3 million elements are for all that a run makes. */
    private static void room() throws IllegalAccessException {
        SiteCuts x = new SiteCuts();
        Set<Object> made = Collections.newSetFromMap(new IdentityHashMap<>());
        long elements = reach(x, made);
        demand(made.size() <= 500, "a SiteCuts is " + made.size() + " objects and arrays");
        demand(elements <= 5000, "a SiteCuts holds " + elements + " fields and elements");
        for (int call = 0; call < 100; call++) {
            x.addSite(call);
            x.addCustomer(1 + call % 20);
            x.setRoute(call % 7, call % 8, call);
            x.solve();
            x.type('1');
        }
        Set<Object> used = Collections.newSetFromMap(new IdentityHashMap<>());
        demand(reach(x, used) == elements && made.containsAll(used), "a SiteCuts holds what it was made with");
    }

    private static long reach(Object object, Set<Object> seen) throws IllegalAccessException {
        if (object == null || !seen.add(object)) {
            return 0;
        }
        if (object instanceof Object[]) {
            long held = ((Object[]) object).length;
            for (Object row : (Object[]) object) {
                held += reach(row, seen);
            }
            return held;
        }
        if (object.getClass().isArray()) {
            return Array.getLength(object);
        }
        long elements = 0;
        for (Field field : object.getClass().getDeclaredFields()) {
            if (!Modifier.isStatic(field.getModifiers())) {
                field.setAccessible(true);
                elements += 1 + (field.getType().isPrimitive() ? 0 : reach(field.get(object), seen));
            }
        }
        return elements;
    }
}
