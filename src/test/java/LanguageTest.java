import java.lang.reflect.Field;
import java.lang.reflect.Method;
import java.lang.reflect.Modifier;
import java.nio.file.Files;
import java.nio.file.Path;
import java.util.List;
import java.util.regex.Matcher;
import java.util.regex.Pattern;

/** What of LANGUAGE.md can be seen from the class's text and its members. */
public final class LanguageTest {
    private static final Check CHECK = new Check();
    private static final List<String> RULED_OUT = List.of("\\bthrow\\b", "\\bthrows\\b", "\\btry\\b", "\\bcatch\\b",
        "\\bfinally\\b", "\\bsynchronized\\b", "\\bassert\\b", "->", "::", "\\bExact\\b", "\\w+Exact\\b", "\\bpackage\\b",
        "\\bSystem\\.(?!arraycopy\\b)", "\\bThread\\b", "\\bRandom\\b", "\\bprotected\\b", "\\bdouble\\b", "\\bfloat\\b",
        "\\bhashCode\\b", "\\btoString\\b", "\\bObject\\b", "\\bstatic\\s*\\{", "\\bwhile\\s*\\(\\s*true\\b",
        "\\bfor\\s*\\(\\s*;");
    private static final int MOST_LINES = 60;
    private static final int MOST_FIELDS = 20;

    public static void main(String[] args) throws Exception {
        String text = Files.readString(Path.of("src/main/java/LikestHeir.java"));
        String code = text.replaceAll("(?s)/\\*.*?\\*/", "").replaceAll("//[^\n]*", "")
            .replaceAll("\"[^\"\n]*\"", "\"\"");
        for (String pattern : RULED_OUT) {
            CHECK.holds("no " + pattern, !Pattern.compile(pattern).matcher(code).find());
        }
        CHECK.holds("signs are 1 to 127", text.chars().allMatch(c -> c > 0 && c < 128));
        Matcher imports = Pattern.compile("import ([^;]*);").matcher(code);
        while (imports.find()) {
            CHECK.due("import " + imports.group(1), imports.group(1).equals("java.util.Arrays") ? 1 : 0, 1);
        }
        methodsAreShort(code);
        members(LikestHeir.class);
        for (Class<?> inside : LikestHeir.class.getDeclaredClasses()) {
            members(inside);
        }
        CHECK.end();
    }

    private static void methodsAreShort(String code) {
        String[] lines = code.split("\n");
        int begun = -1;
        String indent = "";
        for (int i = 0; i < lines.length; i++) {
            Matcher head = Pattern.compile("^( +)[\\w\\[\\] ]+\\([^;=]*\\) \\{$").matcher(lines[i]);
            if (head.find() && !lines[i].trim().matches("(if|for|while|switch|else|\\}).*")) {
                begun = i;
                indent = head.group(1);
            } else if (begun >= 0 && lines[i].equals(indent + "}")) {
                CHECK.holds(lines[begun].trim() + " is short", i - begun < MOST_LINES);
                begun = -1;
            }
        }
    }

    private static void members(Class<?> of) {
        int fields = 0;
        for (Field f : of.getDeclaredFields()) {
            boolean isStatic = Modifier.isStatic(f.getModifiers());
            fields += isStatic ? 0 : 1;
            CHECK.holds("the static field " + f.getName() + " is final",
                !isStatic || Modifier.isFinal(f.getModifiers()));
        }
        CHECK.holds(of + " has few fields", fields <= MOST_FIELDS);
        for (Method m : of.getDeclaredMethods()) {
            CHECK.holds(m.getName() + " takes few parameters", m.getParameterCount() <= 7);
        }
    }
}
