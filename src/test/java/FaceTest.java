import java.io.IOException;
import java.lang.reflect.Constructor;
import java.lang.reflect.Field;
import java.lang.reflect.Method;
import java.lang.reflect.Modifier;
import java.nio.file.Files;
import java.nio.file.Path;
import java.util.ArrayList;
import java.util.List;
import java.util.Set;
import java.util.TreeSet;

/** The face is just the document's, and members are as LANGUAGE.md wants them. */
public final class FaceTest {
    private static final Path DOCUMENT = Path.of(System.getProperty("shared"), "DOC.md");

    public static void main(String[] args) throws IOException {
        Check.is("the class is public and final", Modifier.PUBLIC | Modifier.FINAL, SliceColumns.class.getModifiers());
        sameText("public members", facesOfDocument(), facesOfClass());
        membersAreHidden();
        noPrivateTwin();
        for (Class<?> inside : SliceColumns.class.getDeclaredClasses()) {
            Check.is(inside + " is static", 1, Modifier.isStatic(inside.getModifiers()) ? 1 : 0);
            staticFieldsAreFinal(inside);
        }
        staticFieldsAreFinal(SliceColumns.class);
        Check.end();
    }

    private static void sameText(String what, Set<String> due, Set<String> got) {
        Check.isText(what, String.join("\n", due), String.join("\n", got));
    }

    /** The lines between the braces of the document's face, without the names of parameters. */
    private static Set<String> facesOfDocument() throws IOException {
        Set<String> faces = new TreeSet<>();
        for (String line : Files.readAllLines(DOCUMENT)) {
            if (line.startsWith("    public ")) {
                faces.add(line.trim().replaceAll("(int|long|boolean) \\w+([,)])", "$1$2").replaceAll(" = .*;", ";"));
            }
        }
        Check.is("the document has 2 constants, a constructor and 58 methods", 61, faces.size());
        return faces;
    }

    private static Set<String> facesOfClass() {
        Set<String> faces = new TreeSet<>();
        for (Field field : SliceColumns.class.getDeclaredFields()) {
            if (Modifier.isPublic(field.getModifiers())) {
                String modifiers = Modifier.toString(field.getModifiers());
                faces.add(modifiers + " " + field.getType() + " " + field.getName() + ";");
            }
        }
        for (Constructor<?> made : SliceColumns.class.getDeclaredConstructors()) {
            faces.add("public SliceColumns(" + types(made.getParameterTypes()) + ")"
                    + thrown(made.getExceptionTypes()));
        }
        for (Method method : SliceColumns.class.getDeclaredMethods()) {
            if (Modifier.isPublic(method.getModifiers())) {
                faces.add(Modifier.toString(method.getModifiers()) + " " + method.getReturnType() + " "
                        + method.getName() + "(" + types(method.getParameterTypes()) + ")"
                        + thrown(method.getExceptionTypes()));
            }
        }
        return faces;
    }

    private static String types(Class<?>[] types) {
        List<String> names = new ArrayList<>();
        for (Class<?> type : types) {
            names.add(type.getSimpleName());
        }
        return String.join(", ", names);
    }

    private static String thrown(Class<?>[] types) {
        return types.length == 0 ? ";" : " throws " + types(types) + ";";
    }

    private static void membersAreHidden() {
        for (Field field : SliceColumns.class.getDeclaredFields()) {
            boolean shown = Modifier.isPublic(field.getModifiers());
            Check.is(field + " is hidden", 1, shown || Modifier.isPrivate(field.getModifiers()) ? 1 : 0);
        }
        for (Method method : SliceColumns.class.getDeclaredMethods()) {
            boolean shown = Modifier.isPublic(method.getModifiers());
            Check.is(method + " is hidden", 1, shown || Modifier.isPrivate(method.getModifiers()) ? 1 : 0);
            Check.is(method + " has seven parameters at most", 1, method.getParameterCount() <= 7 ? 1 : 0);
        }
    }

    private static void noPrivateTwin() {
        Set<String> shown = new TreeSet<>();
        for (Method method : SliceColumns.class.getDeclaredMethods()) {
            if (Modifier.isPublic(method.getModifiers())) {
                shown.add(method.getName());
            }
        }
        List<Class<?>> all = new ArrayList<>(List.of(SliceColumns.class.getDeclaredClasses()));
        all.add(SliceColumns.class);
        for (Class<?> type : all) {
            for (Method method : type.getDeclaredMethods()) {
                boolean twin = !Modifier.isPublic(method.getModifiers()) && shown.contains(method.getName());
                Check.is(method + " bears the name of a public one", 0, twin ? 1 : 0);
            }
        }
    }

    private static void staticFieldsAreFinal(Class<?> type) {
        for (Field field : type.getDeclaredFields()) {
            boolean fine = !Modifier.isStatic(field.getModifiers()) || Modifier.isFinal(field.getModifiers());
            Check.is(field + " is final", 1, fine ? 1 : 0);
        }
    }
}
