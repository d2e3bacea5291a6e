import java.io.IOException;
import java.lang.reflect.Constructor;
import java.lang.reflect.Field;
import java.lang.reflect.Method;
import java.lang.reflect.Modifier;
import java.nio.file.Files;
import java.nio.file.Path;
import java.util.Arrays;
import java.util.Map;
import java.util.Set;
import java.util.TreeMap;
import java.util.TreeSet;
import java.util.regex.Matcher;
import java.util.regex.Pattern;

/** The public face of the document, and the rules of LANGUAGE.md that can be seen from outside. */
public final class LanguageTest {
    private static final Checks CHECKS = new Checks();
    private static final String[] FACE = {
        "turned(int)", "composed(int,int)", "near(int,int)", "steps(int,int)",
        "tell(int,int,int,int)", "silent(int,boolean)", "statement(int,int)", "told(int,int,int)",
        "closed(int,int,int)", "canBe(int)", "can(int,int,int)", "drawing(int,int,int)",
        "drawn(int,int,int)", "core(int)", "word(int,int,int)", "say(int,int,int)",
        "ask(int,int,int)", "box(int,int,int,int,int)", "rub(int)", "read(int,int,int)",
        "holds(int,int,int)", "fits()", "moved(int,int,int)", "count(int)"
    };
    private static final String[] NEVER = {
        "\\bthrow\\b", "\\bthrows\\b", "\\btry\\b", "\\bcatch\\b", "\\bfinally\\b", "\\bsynchronized\\b",
        "\\bassert\\b", "->", "::", "\\bstatic\\s*\\{", "\\bprotected\\b", "Exact\\s*\\(", "\\bequals\\b",
        "\\bhashCode\\b", "\\btoString\\b", "\\bvar\\b", "\\bObject\\b", "\\bRandom\\b", "\\bnative\\b",
        "nanoTime", "currentTimeMillis", "\\[\\]\\[\\]\\[\\]", "^package\\b"
    };

    public static void main(String[] args) throws IOException {
        face();
        classesInside();
        source();
        depth();
        CHECKS.done("LanguageTest");
    }

    private static String text(Method method) {
        StringBuilder text = new StringBuilder(method.getName()).append('(');
        for (Class<?> type : method.getParameterTypes()) {
            text.append(text.charAt(text.length() - 1) == '(' ? "" : ",").append(type.getName());
        }
        return text.append(')').toString();
    }

    private static void face() {
        Class<?> c = SpaceWords.class;
        CHECKS.holds("public and final", Modifier.isPublic(c.getModifiers()) && Modifier.isFinal(c.getModifiers()));
        Set<String> found = new TreeSet<>();
        for (Method method : c.getDeclaredMethods()) {
            if (Modifier.isPublic(method.getModifiers())) {
                found.add(text(method));
                CHECKS.holds("int, not static: " + method,
                        method.getReturnType() == int.class && !Modifier.isStatic(method.getModifiers()));
            } else {
                CHECKS.holds("private: " + method, Modifier.isPrivate(method.getModifiers()));
            }
        }
        CHECKS.holds("the face, found " + found, found.equals(new TreeSet<>(Arrays.asList(FACE))));
        for (Field field : c.getDeclaredFields()) {
            CHECKS.holds("private: " + field, Modifier.isPrivate(field.getModifiers()));
        }
        Constructor<?>[] constructors = c.getDeclaredConstructors();
        CHECKS.due("constructors", constructors.length, 1);
        CHECKS.holds("public constructor without parameters",
                Modifier.isPublic(constructors[0].getModifiers()) && constructors[0].getParameterCount() == 0);
    }

    private static void classesInside() {
        Set<String> names = new TreeSet<>();
        for (String member : FACE) {
            names.add(member.substring(0, member.indexOf('(')));
        }
        Class<?>[] inside = SpaceWords.class.getDeclaredClasses();
        CHECKS.holds("at most twelve classes", inside.length < 12);
        for (Class<?> c : inside) {
            CHECKS.holds("static: " + c, Modifier.isStatic(c.getModifiers()));
            CHECKS.holds("at most twenty fields: " + c, c.getDeclaredFields().length <= 20);
            for (Method method : c.getDeclaredMethods()) {
                CHECKS.holds("no name of the face: " + method, !names.contains(method.getName()));
                CHECKS.holds("at most seven parameters: " + method, method.getParameterCount() <= 7);
            }
            for (Field field : c.getDeclaredFields()) {
                int modifiers = field.getModifiers();
                CHECKS.holds("static is final: " + field, !Modifier.isStatic(modifiers) || Modifier.isFinal(modifiers));
            }
        }
        for (Method method : SpaceWords.class.getDeclaredMethods()) {
            CHECKS.holds("no name of the face: " + method,
                    !Modifier.isPrivate(method.getModifiers()) || !names.contains(method.getName()));
        }
    }

    private static void source() throws IOException {
        String all = Files.readString(Path.of("src/main/java/SpaceWords.java"));
        CHECKS.holds("signs 1 to 127", all.chars().allMatch(c -> c > 0 && c < 128));
        String code = all.replaceAll("(?s)/\\*.*?\\*/", "").replaceAll("//[^\n]*", "");
        for (String never : NEVER) {
            CHECKS.holds("never " + never, !Pattern.compile(never, Pattern.MULTILINE).matcher(code).find());
        }
        Matcher imports = Pattern.compile("\\bimport\\s+([\\w.*]+)").matcher(code);
        while (imports.find()) {
            CHECKS.holds("import " + imports.group(1), imports.group(1).equals("java.util.Arrays"));
        }
        // Rows are made in constructors alone, so that no call makes anything.
        Matcher made = Pattern.compile("\\bnew\\b").matcher(code);
        int makers = 0;
        while (made.find()) {
            makers++;
        }
        Matcher inConstructors = Pattern.compile("(?m)^ +\\w+ = new |Search search = new ").matcher(code);
        int assigned = 0;
        while (inConstructors.find()) {
            assigned++;
        }
        CHECKS.due("what is made", makers, assigned);
        Map<String, String> bodies = bodies();
        for (String method : bodies.keySet()) {
            CHECKS.holds("a short method: " + method, bodies.get(method).lines().count() < 60);
        }
    }

    /** Calls go at most eight deep, a method's calls of itself aside. */
    private static void depth() throws IOException {
        Map<String, String> bodies = bodies();
        Map<String, Set<String>> calls = new TreeMap<>();
        for (String caller : bodies.keySet()) {
            calls.put(caller, called(caller, bodies));
        }
        CHECKS.holds("findCore calls close and canHold",
                calls.get("Way.findCore").containsAll(Set.of("Nets.close", "Search.canHold")));
        CHECKS.holds("settles calls itself", bodies.get("Search.settles").contains(" settles("));
        for (String member : FACE) {
            String name = "SpaceWords." + member.substring(0, member.indexOf('('));
            int deepest = deepest(name, calls, 0);
            CHECKS.holds(name + " goes " + deepest + " deep", deepest >= 1 && deepest <= 8);
        }
        CHECKS.due("core's depth", deepest("SpaceWords.core", calls, 0), 8);
    }

    /** The lines of each method, by its class and name. */
    private static Map<String, String> bodies() throws IOException {
        Pattern begin = Pattern.compile(" {4}( {4})?(private |public |static )*[a-zA-Z\\[\\]]+ (\\w+)\\(.*\\) \\{");
        Pattern inside = Pattern.compile(" {4}private static final class (\\w+) \\{");
        Map<String, String> bodies = new TreeMap<>();
        String owner = "SpaceWords";
        String method = null;
        String end = null;
        for (String line : Files.readAllLines(Path.of("src/main/java/SpaceWords.java"))) {
            Matcher opened = inside.matcher(line);
            Matcher begun = begin.matcher(line);
            if (opened.matches()) {
                owner = opened.group(1);
            } else if (begun.matches()) {
                method = owner + "." + begun.group(3);
                end = line.substring(0, line.length() - line.stripLeading().length()) + "}";
                CHECKS.holds("one method of its name: " + method, bodies.put(method, "") == null);
            } else if (line.equals(end)) {
                method = null;
            } else if (method != null) {
                bodies.merge(method, line.replaceAll("//.*", "") + "\n", String::concat);
            }
        }
        return bodies;
    }

    /**
     * What a method calls. A call without a dot is of its own class; one behind a class's name is of
     * that class; one behind another name may be of any class that has such a method.
     */
    private static Set<String> called(String caller, Map<String, String> bodies) {
        Set<String> found = new TreeSet<>();
        String owner = caller.substring(0, caller.indexOf('.'));
        Matcher call = Pattern.compile("(?:(\\w+|\\))\\.)?(\\w+)\\(").matcher(bodies.get(caller));
        while (call.find()) {
            String before = call.group(1) == null ? owner : call.group(1);
            for (String other : bodies.keySet()) {
                boolean named = other.endsWith("." + call.group(2));
                boolean ofClass = Character.isUpperCase(before.charAt(0));
                if (named && (!ofClass || other.startsWith(before + "."))) {
                    found.add(other);
                }
            }
        }
        found.remove(caller);
        return found;
    }

    private static int deepest(String method, Map<String, Set<String>> calls, int above) {
        if (above > 20) {
            return 1;
        }
        int below = 0;
        for (String called : calls.getOrDefault(method, Set.of())) {
            below = Math.max(below, deepest(called, calls, above + 1));
        }
        return 1 + below;
    }
}
