import java.io.IOException;
import java.lang.reflect.Constructor;
import java.lang.reflect.Field;
import java.lang.reflect.Method;
import java.lang.reflect.Modifier;
import java.nio.file.Files;
import java.nio.file.Path;
import java.util.Arrays;
import java.util.Set;
import java.util.TreeSet;
import java.util.regex.Matcher;
import java.util.regex.Pattern;

/** The public face of the document, and the rules of LANGUAGE.md that can be seen from outside. */
public final class LanguageTest {
    private static final Checks CHECKS = new Checks();
    private static final String[] FACE = {
        "turned(int)", "composed(int,int)", "near(int,int)", "steps(int,int)",
        "tell(int,int,int,int)", "silent(int,boolean)", "statement(int,int)", "told(int,int,int)",
        "closed(int,int,int)", "canBe(int)", "can(int,int,int)", "drawing(int,int,int)",
        "drawn(int,int,int)", "core(int)", "word(int,int,int)", "say(int,int,int)",
        "ask(int,int,int)", "box(int,int,int,int,int)", "rub(int)", "read(int,int,int)",
        "holds(int,int,int)", "fits()", "moved(int,int,int)", "count(int)"
    };
    private static final String[] NEVER = {
        "\\bthrow\\b", "\\bthrows\\b", "\\btry\\b", "\\bcatch\\b", "\\bfinally\\b", "\\bsynchronized\\b",
        "\\bassert\\b", "->", "::", "\\bstatic\\s*\\{", "\\bprotected\\b", "Exact\\s*\\(", "\\bequals\\b",
        "\\bhashCode\\b", "\\btoString\\b", "\\bvar\\b", "\\bObject\\b", "\\bRandom\\b", "\\bnative\\b",
        "nanoTime", "currentTimeMillis", "\\[\\]\\[\\]\\[\\]", "^package\\b"
    };

    public static void main(String[] args) throws IOException {
        face();
        classesInside();
        source();
        CHECKS.done("LanguageTest");
    }

    private static String text(Method method) {
        StringBuilder text = new StringBuilder(method.getName()).append('(');
        for (Class<?> type : method.getParameterTypes()) {
            text.append(text.charAt(text.length() - 1) == '(' ? "" : ",").append(type.getName());
        }
        return text.append(')').toString();
    }

    private static void face() {
        Class<?> c = SpaceWords.class;
        CHECKS.holds("public and final", Modifier.isPublic(c.getModifiers()) && Modifier.isFinal(c.getModifiers()));
        Set<String> found = new TreeSet<>();
        for (Method method : c.getDeclaredMethods()) {
            if (Modifier.isPublic(method.getModifiers())) {
                found.add(text(method));
                CHECKS.holds("int, not static: " + method,
                        method.getReturnType() == int.class && !Modifier.isStatic(method.getModifiers()));
            } else {
                CHECKS.holds("private: " + method, Modifier.isPrivate(method.getModifiers()));
            }
        }
        CHECKS.holds("the face, found " + found, found.equals(new TreeSet<>(Arrays.asList(FACE))));
        for (Field field : c.getDeclaredFields()) {
            CHECKS.holds("private: " + field, Modifier.isPrivate(field.getModifiers()));
        }
        Constructor<?>[] constructors = c.getDeclaredConstructors();
        CHECKS.due("constructors", constructors.length, 1);
        CHECKS.holds("public constructor without parameters",
                Modifier.isPublic(constructors[0].getModifiers()) && constructors[0].getParameterCount() == 0);
    }

    private static void classesInside() {
        Set<String> names = new TreeSet<>();
        for (String member : FACE) {
            names.add(member.substring(0, member.indexOf('(')));
        }
        Class<?>[] inside = SpaceWords.class.getDeclaredClasses();
        CHECKS.holds("at most twelve classes", inside.length < 12);
        for (Class<?> c : inside) {
            CHECKS.holds("static: " + c, Modifier.isStatic(c.getModifiers()));
            CHECKS.holds("at most twenty fields: " + c, c.getDeclaredFields().length <= 20);
            for (Method method : c.getDeclaredMethods()) {
                CHECKS.holds("no name of the face: " + method, !names.contains(method.getName()));
                CHECKS.holds("at most seven parameters: " + method, method.getParameterCount() <= 7);
            }
            for (Field field : c.getDeclaredFields()) {
                int modifiers = field.getModifiers();
                CHECKS.holds("static is final: " + field, !Modifier.isStatic(modifiers) || Modifier.isFinal(modifiers));
            }
        }
        for (Method method : SpaceWords.class.getDeclaredMethods()) {
            CHECKS.holds("no name of the face: " + method,
                    !Modifier.isPrivate(method.getModifiers()) || !names.contains(method.getName()));
        }
    }

    private static void source() throws IOException {
        String all = Files.readString(Path.of("src/main/java/SpaceWords.java"));
        CHECKS.holds("signs 1 to 127", all.chars().allMatch(c -> c > 0 && c < 128));
        String code = all.replaceAll("(?s)/\\*.*?\\*/", "").replaceAll("//[^\n]*", "");
        for (String never : NEVER) {
            CHECKS.holds("never " + never, !Pattern.compile(never, Pattern.MULTILINE).matcher(code).find());
        }
        Matcher imports = Pattern.compile("\\bimport\\s+([\\w.*]+)").matcher(code);
        while (imports.find()) {
            CHECKS.holds("import " + imports.group(1), imports.group(1).equals("java.util.Arrays"));
        }
        // Rows are made in constructors alone, so that no call makes anything.
        Matcher made = Pattern.compile("\\bnew\\b").matcher(code);
        int makers = 0;
        while (made.find()) {
            makers++;
        }
        Matcher inConstructors = Pattern.compile("(?m)^ +\\w+ = new |Search search = new ").matcher(code);
        int assigned = 0;
        while (inConstructors.find()) {
            assigned++;
        }
        CHECKS.due("what is made", makers, assigned);
        int start = 0;
        String[] lines = all.split("\n");
        for (int i = 0; i < lines.length; i++) {
            if (lines[i].matches(" {4}( {4})?[a-z].*\\) \\{")) {
                start = i;
            }
            if (lines[i].matches(" {4}( {4})?\\}")) {
                CHECKS.holds("a short method at line " + start, start == 0 || i - start < 60);
                start = 0;
            }
        }
    }
}
