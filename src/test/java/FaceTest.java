import java.io.IOException;
import java.lang.reflect.Constructor;
import java.lang.reflect.Field;
import java.lang.reflect.Method;
import java.lang.reflect.Modifier;
import java.nio.file.Files;
import java.nio.file.Path;
import java.util.Arrays;
import java.util.Set;
import java.util.TreeSet;
import java.util.stream.Collectors;

/** The public face, as the document has it: nothing of it is missing, and nothing else can be seen. */
final class FaceTest {
    private static final Due due = new Due("FaceTest");
    private static final Class<?> CLASS = RowPruner.class;

    public static void main(String[] args) throws IOException {
        String document = Files.readString(Path.of(System.getProperty("rowpruner.shared", "../shared")).resolve("DOC.md"));
        int from = document.indexOf("```java\n") + 8;
        Set<String> wanted = members(document.substring(from, document.indexOf("```", from)));
        Set<String> there = members();
        for (String member : wanted) due.is("the document has, the program too: " + member, there.contains(member) ? 1 : 0, 1);
        for (String member : there) due.is("the program has, the document too: " + member, wanted.contains(member) ? 1 : 0, 1);
        due.is("class, constant, constructor, 40 methods", wanted.size(), 43);
        due.is("NONE", RowPruner.NONE, -1);
        due.is("interfaces", CLASS.getInterfaces().length, 0);
        due.is("a package", CLASS.getPackageName().isEmpty() ? 0 : 1, 0);
        due.is("a class above it", CLASS.getSuperclass() == Object.class ? 0 : 1, 0);
        for (Class<?> inside : CLASS.getDeclaredClasses()) inside(inside);
        due.end();
    }

    /** The lines of the document's face, without the names of what is given. */
    private static Set<String> members(String face) {
        Set<String> all = new TreeSet<>();
        for (String line : face.split("\n")) {
            String plain = line.trim().replaceAll("int \\w+(?=[,)])", "int").replaceAll(" ?[{;]$", "");
            if (!plain.equals("}")) all.add(plain);
        }
        return all;
    }

    private static Set<String> members() {
        Set<String> all = new TreeSet<>();
        all.add(words(CLASS.getModifiers()) + "class " + CLASS.getName());
        for (Field field : CLASS.getDeclaredFields()) {
            if (Modifier.isPrivate(field.getModifiers()) || field.isSynthetic()) continue;
            all.add(words(field.getModifiers()) + field.getType() + " " + field.getName() + " = " + RowPruner.NONE);
        }
        for (Constructor<?> made : CLASS.getDeclaredConstructors()) {
            if (Modifier.isPrivate(made.getModifiers())) continue;
            all.add(words(made.getModifiers()) + CLASS.getName() + given(made.getParameterTypes()));
        }
        for (Method method : CLASS.getDeclaredMethods()) {
            if (Modifier.isPrivate(method.getModifiers()) || method.isSynthetic()) continue;
            all.add(words(method.getModifiers()) + method.getReturnType() + " " + method.getName() + given(method.getParameterTypes()));
        }
        return all;
    }

    private static String words(int modifiers) {
        return modifiers == 0 ? "" : Modifier.toString(modifiers) + " ";
    }

    private static String given(Class<?>[] types) {
        return Arrays.stream(types).map(Class::getName).collect(Collectors.joining(", ", "(", ")"));
    }

    /** A class inside is static, and neither public nor protected; none of its methods bears a name of the face. */
    private static void inside(Class<?> inside) {
        int modifiers = inside.getModifiers();
        due.is("static " + inside, Modifier.isStatic(modifiers) ? 1 : 0, 1);
        due.is("hidden " + inside, Modifier.isPublic(modifiers) || Modifier.isProtected(modifiers) ? 1 : 0, 0);
        for (Method method : inside.getDeclaredMethods()) {
            boolean borne = Arrays.stream(CLASS.getMethods()).anyMatch(m -> m.getDeclaringClass() == CLASS && m.getName().equals(method.getName()));
            due.is("a name of the face: " + method, borne ? 1 : 0, 0);
        }
    }
}
