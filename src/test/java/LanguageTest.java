import java.io.IOException;
import java.lang.reflect.Constructor;
import java.lang.reflect.Field;
import java.lang.reflect.Method;
import java.lang.reflect.Modifier;
import java.nio.file.Files;
import java.nio.file.Path;
import java.util.Set;
import java.util.TreeSet;
import java.util.regex.Pattern;

/** The face is the document's and no more, and the source keeps to what can be seen of LANGUAGE.md. */
public final class LanguageTest {
    private static final String[] FACE = {
        "int feed(int,int,int,int,int)", "int end(int)", "int tongue()", "int fault(int)", "int follow(int)", "int may()",
        "int say(int)", "int silence()", "int talk(int,int)", "int word(int,int)", "int all(boolean)", "int longest()",
        "int worthy()", "int parted()", "int missed(int)", "int lies(int)", "int surplus(int)", "int mended()",
        "int join(int,int)", "int telling()", "int game(int)", "int wins(int)", "int deep(int)", "int score(int)",
        "int done()", "int again(int)", "int dead()", "int hear(int,int,int)", "boolean untell(int)", "int later(int)",
        "long fits(int,int)", "int can(int,int,int)", "int seed(int)", "int image(int)", "int back(int)", "int about(int)"
    };
    private static final String[] FORBIDDEN = {
        "\\bthrow\\b", "\\bthrows\\b", "\\btry\\b", "\\bcatch\\b", "\\bsynchronized\\b", "\\bassert\\b", "->", "::",
        "Exact\\b", "\\bstatic\\s*\\{", "\\bnew\\s+\\w+\\([^)]*\\)\\s*\\{", "\\bprotected\\b", "\\bpackage\\b", "\\bSystem\\.(?!arraycopy)",
        "\\bhashCode\\b", "\\btoString\\b", "\\bvar\\b"
    };

    private LanguageTest() {
    }

    public static void main(String[] args) throws IOException {
        face();
        Set<String> names = new TreeSet<>();
        for (String method : FACE) {
            names.add(method.replaceAll("^\\w+ (\\w+)\\(.*", "$1"));
        }
        Class<?>[] inside = LastLetter.class.getDeclaredClasses();
        Due.isTrue("at most twelve classes", inside.length + 1 <= 12);
        for (Class<?> type : inside) {
            Due.isTrue(type + " is static", Modifier.isStatic(type.getModifiers()));
            for (Method method : type.getDeclaredMethods()) {
                Due.isFalse(type + "." + method.getName() + " bears a public name", names.contains(method.getName()));
                Due.isTrue(method + " takes seven at most", method.getParameterCount() <= 7);
            }
        }
        source();
        Due.finish();
    }

    private static void face() {
        Due.isTrue("public and final", Modifier.isFinal(LastLetter.class.getModifiers()) && Modifier.isPublic(LastLetter.class.getModifiers()));
        Set<String> seen = new TreeSet<>();
        for (Method method : LastLetter.class.getDeclaredMethods()) {
            if (!Modifier.isPrivate(method.getModifiers())) {
                StringBuilder text = new StringBuilder(method.getReturnType() + " " + method.getName() + "(");
                for (Class<?> type : method.getParameterTypes()) {
                    text.append(text.charAt(text.length() - 1) == '(' ? "" : ",").append(type);
                }
                seen.add(text.append(')').toString());
            }
        }
        Due.isTrue("the face: " + seen, seen.equals(new TreeSet<>(Set.of(FACE))));
        for (Field field : LastLetter.class.getDeclaredFields()) {
            boolean known = field.getName().equals("NONE") || Modifier.isPrivate(field.getModifiers());
            Due.isTrue("field " + field.getName(), known);
        }
        Constructor<?>[] made = LastLetter.class.getDeclaredConstructors();
        Due.is("one constructor", made.length, 1);
        Due.is("without parameters", made[0].getParameterCount(), 0);
        Due.is("NONE", LastLetter.NONE, -1);
    }

    private static void source() throws IOException {
        String text = Files.readString(Path.of("src/main/java/LastLetter.java"));
        for (char c : text.toCharArray()) {
            Due.isTrue("sign " + (int) c, c == '\n' || c >= 32 && c < 127);
        }
        String code = text.replaceAll("(?s)/\\*.*?\\*/", " ").replaceAll("//[^\n]*", " ").replaceAll("\"[^\"\n]*\"", "\"\"");
        for (String pattern : FORBIDDEN) {
            Due.isFalse("stands in the source: " + pattern, Pattern.compile(pattern).matcher(code).find());
        }
        String imports = code.replaceAll("(?m)^import java\\.util\\.(Arrays|ArrayList|List|Iterator);", " ");
        Due.isFalse("another import", Pattern.compile("\\bimport\\b").matcher(imports).find());
    }
}
