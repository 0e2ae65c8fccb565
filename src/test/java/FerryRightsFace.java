import java.io.IOException;
import java.lang.reflect.Constructor;
import java.lang.reflect.Field;
import java.lang.reflect.Method;
import java.lang.reflect.Modifier;
import java.nio.file.Files;
import java.nio.file.Path;
import java.util.HashSet;
import java.util.Set;
import java.util.TreeSet;
import java.util.regex.Matcher;
import java.util.regex.Pattern;

/** The class has the face that the document writes, and nothing else that is not private. */
public final class FerryRightsFace {
    private static int wrong = 0;

    private static void check(boolean so, String text) {
        if (!so) {
            wrong++;
            System.out.println(text);
        }
    }

    private static Set<String> faceOfDocument() throws IOException {
        Set<String> face = new TreeSet<>();
        Pattern line = Pattern.compile("    public (\\w+) (\\w+)\\(([^)]*)\\)(?: throws ([\\w, ]+))?;");
        for (String text : Files.readAllLines(Path.of("../shared/DOC.md"))) {
            Matcher m = line.matcher(text);
            if (m.matches()) {
                String types = m.group(3).replaceAll(" \\w+(,|$)", "$1");
                String thrown = m.group(4) == null ? "" : m.group(4);
                face.add(m.group(1) + " " + m.group(2) + "(" + types + ") " + thrown);
            }
        }
        return face;
    }

    private static String write(Method method) {
        StringBuilder text = new StringBuilder();
        text.append(method.getReturnType().getSimpleName()).append(' ').append(method.getName()).append('(');
        text.append(join(method.getParameterTypes())).append(") ").append(join(method.getExceptionTypes()));
        return text.toString();
    }

    private static String join(Class<?>[] types) {
        StringBuilder text = new StringBuilder();
        for (Class<?> type : types) {
            text.append(text.length() == 0 ? "" : ", ").append(type.getSimpleName());
        }
        return text.toString();
    }

    public static void main(String[] args) throws IOException {
        int modifiers = FerryRights.class.getModifiers();
        check(Modifier.isPublic(modifiers) && Modifier.isFinal(modifiers), "the class is not public and final");
        Set<String> face = new TreeSet<>();
        Set<String> shown = new HashSet<>();
        Set<String> hidden = new HashSet<>();
        for (Method method : FerryRights.class.getDeclaredMethods()) {
            if (Modifier.isPrivate(method.getModifiers())) {
                hidden.add(method.getName());
            } else {
                check(method.getModifiers() == Modifier.PUBLIC, method + " is not just public");
                face.add(write(method));
                shown.add(method.getName());
            }
        }
        check(face.equals(faceOfDocument()), "the methods are\n" + face + "\nand the document writes\n" + faceOfDocument());
        check(face.size() == 40, "the face has " + face.size() + " methods");
        hidden.retainAll(shown);
        check(hidden.isEmpty(), "private methods bear public names: " + hidden);
        Constructor<?>[] constructors = FerryRights.class.getDeclaredConstructors();
        check(constructors.length == 1 && constructors[0].getModifiers() == Modifier.PUBLIC
                && constructors[0].getParameterCount() == 0, "the constructor is not the document's");
        for (Field field : FerryRights.class.getDeclaredFields()) {
            check(Modifier.isPrivate(field.getModifiers()), field + " is not private");
            check(!Modifier.isStatic(field.getModifiers()) || Modifier.isFinal(field.getModifiers()),
                    field + " is static and not final");
        }
        System.out.println(wrong == 0 ? "the face is the document's" : wrong + " faults of the face");
        if (wrong != 0) {
            System.exit(1);
        }
    }
}
