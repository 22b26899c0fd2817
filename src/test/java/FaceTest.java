import java.io.IOException;
import java.lang.reflect.Constructor;
import java.lang.reflect.Field;
import java.lang.reflect.Method;
import java.lang.reflect.Modifier;
import java.nio.file.Files;
import java.nio.file.Path;
import java.util.ArrayList;
import java.util.Arrays;
import java.util.HashSet;
import java.util.List;
import java.util.Set;
import java.util.TreeSet;
import java.util.stream.Collectors;

/** The class has the face that the document's code block writes, and nothing else that can be seen. */
public final class FaceTest {
    private static int wrong;

    private FaceTest() {
    }

    public static void main(String[] args) throws IOException {
        List<String> face = faceOfTheDocument();
        members(face);
        nestedClasses(face);
        if (wrong > 0) {
            System.exit(1);
        }
    }

    private static void expect(String what, Object due, Object got) {
        if (!due.equals(got)) {
            wrong++;
            System.out.println(what + ": " + got + ", due is " + due);
        }
    }

    /** The lines of the code block between the braces of the class. */
    private static List<String> faceOfTheDocument() throws IOException {
        List<String> lines = Files.readAllLines(Path.of("../shared/DOC.md"));
        int start = lines.indexOf("public final class HopOast {");
        List<String> face = new ArrayList<>();
        for (int i = start + 1; !lines.get(i).equals("}"); i++) {
            face.add(lines.get(i).trim());
        }
        return face;
    }

    private static void members(List<String> due) {
        expect("modifiers", "public final", Modifier.toString(HopOast.class.getModifiers()));
        expect("fields and methods", new TreeSet<>(due), visibleMembers());
        expect("interfaces", 0, HopOast.class.getInterfaces().length);
    }

    private static Set<String> visibleMembers() {
        Set<String> face = new TreeSet<>();
        try {
            for (Field field : HopOast.class.getDeclaredFields()) {
                if (!Modifier.isPrivate(field.getModifiers())) {
                    face.add(Modifier.toString(field.getModifiers()) + " " + field.getType() + " " + field.getName()
                            + " = " + field.getInt(null) + ";");
                }
            }
        } catch (IllegalAccessException e) {
            throw new AssertionError(e);
        }
        for (Constructor<?> made : HopOast.class.getDeclaredConstructors()) {
            face.add(Modifier.toString(made.getModifiers()) + " HopOast(" + names(made.getParameterTypes()) + ");");
        }
        for (Method method : HopOast.class.getDeclaredMethods()) {
            if (!Modifier.isPrivate(method.getModifiers())) {
                face.add(signature(method));
            }
        }
        return face;
    }

    private static String signature(Method method) {
        String thrown = names(method.getExceptionTypes());
        List<String> parameters = new ArrayList<>();
        Arrays.stream(method.getParameters()).forEach(p -> parameters.add(p.getType() + " " + p.getName()));
        return Modifier.toString(method.getModifiers()) + " " + method.getReturnType() + " " + method.getName() + "("
                + String.join(", ", parameters) + ")" + (thrown.isEmpty() ? "" : " throws " + thrown) + ";";
    }

    private static String names(Class<?>[] types) {
        return Arrays.stream(types).map(Class::getSimpleName).collect(Collectors.joining(", "));
    }

    /** No method of a class inside bears a name of the face, and no state is static. */
    private static void nestedClasses(List<String> face) {
        Set<String> names = new HashSet<>();
        for (Method method : HopOast.class.getDeclaredMethods()) {
            if (!Modifier.isPrivate(method.getModifiers())) {
                names.add(method.getName());
            }
        }
        for (Method method : HopOast.class.getDeclaredMethods()) {
            if (Modifier.isPrivate(method.getModifiers())) {
                expect("private " + method.getName(), false, names.contains(method.getName()));
            }
        }
        for (Class<?> inside : HopOast.class.getDeclaredClasses()) {
            expect(inside + " is private", true, Modifier.isPrivate(inside.getModifiers()));
            expect(inside + " is static", true, Modifier.isStatic(inside.getModifiers()));
            for (Method method : inside.getDeclaredMethods()) {
                expect(inside + " " + method.getName(), false, names.contains(method.getName()));
            }
            for (Field field : inside.getDeclaredFields()) {
                expect(inside + " " + field.getName() + " is static", false, Modifier.isStatic(field.getModifiers()));
            }
        }
    }
}
