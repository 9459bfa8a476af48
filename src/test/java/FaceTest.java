import java.lang.reflect.Constructor;
import java.lang.reflect.Field;
import java.lang.reflect.Method;
import java.lang.reflect.Modifier;
import java.nio.file.Files;
import java.nio.file.Path;
import java.util.ArrayList;
import java.util.Collections;
import java.util.List;
import java.util.TreeSet;
import java.util.regex.Matcher;
import java.util.regex.Pattern;

/** The class has the face that the document lists, and no other member that can be seen. */
public final class FaceTest {
    private static final Checks CHECKS = new Checks();

    public static void main(String[] args) throws Exception {
        Class<NewspaperMakeup> face = NewspaperMakeup.class;
        CHECKS.isTrue("the class is public and final",
                Modifier.isPublic(face.getModifiers()) && Modifier.isFinal(face.getModifiers()));
        CHECKS.answers("the members are those of the document", documentedFace(), () -> seenFace(face));
        for (Field field : face.getDeclaredFields()) {
            CHECKS.isTrue("private: " + field, Modifier.isPrivate(field.getModifiers()));
        }
        privateNames(face);
        for (Class<?> inside : face.getDeclaredClasses()) {
            CHECKS.isTrue("private and static: " + inside, Modifier.isStatic(inside.getModifiers())
                    && Modifier.isPrivate(inside.getModifiers()));
        }
        CHECKS.end();
    }

    /** The lines of the document's Java block: kind and name of the result, types, exceptions. */
    private static String documentedFace() throws Exception {
        List<String> face = new ArrayList<>();
        Pattern line = Pattern.compile(" {4}public (?:(\\w+) )?(\\w+)\\((.*)\\)(?: throws (.*))?;");
        for (String text : Files.readAllLines(Path.of("../shared/DOC.md"))) {
            Matcher m = line.matcher(text);
            if (m.matches()) {
                String types = m.group(3).replaceAll("(\\w+) \\w+", "$1");
                face.add(m.group(1) + " " + m.group(2) + "(" + types + ") " + m.group(4));
            }
        }
        CHECKS.isTrue("the document lists 31 members", face.size() == 31);
        Collections.sort(face);
        return String.join("\n", face);
    }

    private static String seenFace(Class<?> type) {
        List<String> face = new ArrayList<>();
        for (Method m : type.getDeclaredMethods()) {
            if (!Modifier.isPrivate(m.getModifiers())) {
                face.add(m.getReturnType().getSimpleName() + " " + m.getName()
                        + names(m.getParameterTypes(), m.getExceptionTypes(), m.getModifiers()));
            }
        }
        for (Constructor<?> c : type.getDeclaredConstructors()) {
            face.add("null " + type.getSimpleName()
                    + names(c.getParameterTypes(), c.getExceptionTypes(), c.getModifiers()));
        }
        Collections.sort(face);
        return String.join("\n", face);
    }

    private static String names(Class<?>[] types, Class<?>[] exceptions, int modifiers) {
        String end = exceptions.length == 0 ? "null" : join(exceptions);
        return "(" + join(types) + ") " + end + (modifiers == Modifier.PUBLIC ? "" : " not public");
    }

    private static String join(Class<?>[] types) {
        List<String> names = new ArrayList<>();
        for (Class<?> type : types) {
            names.add(type.getSimpleName());
        }
        return String.join(", ", names);
    }

    private static void privateNames(Class<?> face) {
        TreeSet<String> publicNames = new TreeSet<>();
        for (Method m : face.getDeclaredMethods()) {
            if (Modifier.isPublic(m.getModifiers())) {
                publicNames.add(m.getName());
            }
        }
        List<Class<?>> all = new ArrayList<>(List.of(face.getDeclaredClasses()));
        all.add(face);
        for (Class<?> type : all) {
            for (Method m : type.getDeclaredMethods()) {
                CHECKS.isTrue("no public name: " + m,
                        Modifier.isPublic(m.getModifiers()) || !publicNames.contains(m.getName()));
            }
        }
    }
}
