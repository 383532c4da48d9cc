import java.lang.reflect.Constructor;
import java.lang.reflect.Field;
import java.lang.reflect.Method;
import java.lang.reflect.Modifier;
import java.nio.file.Files;
import java.nio.file.Path;
import java.util.Set;
import java.util.TreeSet;
import java.util.stream.Collectors;
import java.util.stream.Stream;

/** The document's public face, and rule 1 of LANGUAGE.md: all of it, and nothing else that can be seen. */
public final class FaceTest {
    private static final Check CHECK = new Check();

    public static void main(String[] args) throws Exception {
        Set<String> due = documentFace();
        Set<String> is = classFace();
        for (String face : due) {
            CHECK.holds("the document's '" + face + "' is there", is.contains(face));
        }
        for (String face : is) {
            CHECK.holds("'" + face + "' is the document's", due.contains(face));
        }
        CHECK.holds("the face has a constructor and 45 methods", due.size() == 46 && is.size() == due.size());
        CHECK.holds("the class is public and final",
            LikestHeir.class.getModifiers() == (Modifier.PUBLIC | Modifier.FINAL));
        hidden();
        CHECK.end();
    }

    private static Set<String> documentFace() throws Exception {
        String doc = Files.readString(Path.of("../shared/DOC.md"));
        String block = doc.substring(doc.indexOf("```java"), doc.indexOf("```\n", doc.indexOf("```java")));
        return block.lines().map(String::trim).filter(line -> line.endsWith(";"))
            .map(line -> line.replaceAll("(int|long) \\w+([,)])", "$1$2").replace(";", ""))
            .collect(Collectors.toCollection(TreeSet::new));
    }

    private static String types(Class<?>[] types) {
        return Stream.of(types).map(Class::getSimpleName).collect(Collectors.joining(", ", "(", ")"));
    }

    private static Set<String> classFace() {
        Set<String> face = new TreeSet<>();
        for (Constructor<?> c : LikestHeir.class.getDeclaredConstructors()) {
            if (!Modifier.isPrivate(c.getModifiers())) {
                face.add(Modifier.toString(c.getModifiers()) + " LikestHeir" + types(c.getParameterTypes()));
            }
        }
        for (Method m : LikestHeir.class.getDeclaredMethods()) {
            if (!Modifier.isPrivate(m.getModifiers())) {
                face.add(Modifier.toString(m.getModifiers()) + " " + m.getReturnType().getSimpleName() + " "
                    + m.getName() + types(m.getParameterTypes()));
            }
        }
        return face;
    }

    private static void hidden() {
        Set<String> open = new TreeSet<>();
        for (Method m : LikestHeir.class.getMethods()) {
            open.add(m.getName());
        }
        for (Field f : LikestHeir.class.getDeclaredFields()) {
            CHECK.holds("the field " + f.getName() + " is private", Modifier.isPrivate(f.getModifiers()));
        }
        for (Method m : LikestHeir.class.getDeclaredMethods()) {
            CHECK.holds("the private method " + m.getName() + " bears no public one's name",
                Modifier.isPublic(m.getModifiers()) || !open.contains(m.getName()));
        }
        for (Class<?> inside : LikestHeir.class.getDeclaredClasses()) {
            CHECK.holds(inside + " is static", Modifier.isStatic(inside.getModifiers()));
            CHECK.holds(inside + " is private", Modifier.isPrivate(inside.getModifiers()));
            for (Method m : inside.getDeclaredMethods()) {
                CHECK.holds(m.getName() + " in " + inside + " bears no public one's name", !open.contains(m.getName()));
            }
        }
    }
}
