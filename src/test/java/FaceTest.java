import java.io.IOException;
import java.lang.reflect.Constructor;
import java.lang.reflect.Field;
import java.lang.reflect.Method;
import java.lang.reflect.Modifier;
import java.nio.file.Files;
import java.nio.file.Path;
import java.util.ArrayList;
import java.util.Arrays;
import java.util.List;
import java.util.TreeSet;
import java.util.regex.Matcher;
import java.util.regex.Pattern;

/**
 * The public face is the document's, and no other member of the class can be seen from outside; its file has nothing
 * that LANGUAGE.md leaves out and that can be seen word by word.
 */
public final class FaceTest {
    private static final Check CHECK = new Check();

    private static final String[] FACE = {
        "int feed(int, int, int, int, int)",
        "int harbour(int) IllegalArgumentException",
        "int fault()",
        "int count(int) NoSuchElementException",
        "int ship(int, int) NoSuchElementException",
        "int person(int, int) NoSuchElementException",
        "int berth(int, int, int) NoSuchElementException",
        "boolean load(int, int) NoSuchElementException",
        "int lead(int, int, int, boolean) NoSuchElementException",
        "int word(int, int, int, int, boolean, int) NoSuchElementException",
        "int undo()",
        "int span(int, int, int, int) NoSuchElementException IllegalArgumentException",
        "int liars()",
        "boolean safe(int, int, int, int, int, int) NoSuchElementException IllegalArgumentException",
        "int most(int, int) NoSuchElementException",
        "int row(int, int) NoSuchElementException",
        "int odds(int, int, int, int) NoSuchElementException IllegalArgumentException",
        "int worth(int, int, int) NoSuchElementException IllegalArgumentException",
        "int best(int, int) NoSuchElementException",
        "int until(int, int, int) NoSuchElementException",
        "int bears(int, int, int) NoSuchElementException",
        "int aground(int, int, int, int, int, int) NoSuchElementException IllegalArgumentException",
        "boolean name(int, int, int) NoSuchElementException",
        "int names(int) NoSuchElementException",
        "void image()",
        "boolean restore()",
    };

    /** Nothing in the class needs to catch, so that none of what the machine throws can be an answer. */
    private static final String[] LEFT_OUT = {"catch", "finally", "synchronized", "assert", "package", "protected",
        "yield", "native", "transient", "volatile", "double", "float"};

    public static void main(String[] args) throws IOException {
        Class<?> face = SoundHarbour.class;
        CHECK.is("the class is public and final",
                Modifier.isPublic(face.getModifiers()) && Modifier.isFinal(face.getModifiers()), true);
        TreeSet<String> publicNames = methods(face);
        for (Field field : face.getDeclaredFields()) {
            boolean isConstant = field.getName().equals("NONE");
            CHECK.is("field " + field.getName() + " is to be seen", !Modifier.isPrivate(field.getModifiers()), isConstant);
            CHECK.is("static field " + field.getName() + " is final",
                    !Modifier.isStatic(field.getModifiers()) || Modifier.isFinal(field.getModifiers()), true);
        }
        Constructor<?>[] constructors = face.getDeclaredConstructors();
        CHECK.is("constructors", constructors.length, 1);
        CHECK.is("the constructor is public", Modifier.isPublic(constructors[0].getModifiers()), true);
        CHECK.is("the constructor's parameters", constructors[0].getParameterCount(), 0);
        inside(face, publicNames);
        file();
        CHECK.end();
    }

    private static void file() throws IOException {
        String source = Files.readString(Path.of("src/main/java/SoundHarbour.java"))
                .replaceAll("(?s)/\\*.*?\\*/", " ").replaceAll("//[^\n]*", " ").replaceAll("\"[^\"\n]*\"", "TEXT");
        CHECK.is("imports", matches(source, "import [^;]*;").equals(List.of("import java.util.NoSuchElementException;")),
                true);
        for (String word : LEFT_OUT) {
            CHECK.is("rules 1 to 6: " + word, matches(source, "\\b" + word + "\\b").size(), 0);
        }
        CHECK.is("rule 2: lambdas and method references", matches(source, "->|::").size(), 0);
        CHECK.is("rule 5: initialiser blocks", matches(source, "static\\s*\\{").size(), 0);
        for (String call : matches(source, "\\b(Math|Integer|Long|System|Arrays)\\.\\w+")) {
            CHECK.is("rule 4: " + call, List.of("Math.max", "Math.min", "Math.abs", "Integer.bitCount",
                    "System.arraycopy").contains(call), true);
        }
        for (String made : matches(source, "throw [^;]*;")) {
            CHECK.is("rule 6: " + made,
                    made.matches("throw new (NoSuchElement|IllegalArgument)Exception\\(TEXT\\);"), true);
        }
    }

    private static List<String> matches(String source, String pattern) {
        List<String> found = new ArrayList<>();
        Matcher matcher = Pattern.compile(pattern).matcher(source);
        while (matcher.find()) {
            found.add(matcher.group());
        }
        return found;
    }

    private static TreeSet<String> methods(Class<?> face) {
        List<String> seen = new ArrayList<>();
        TreeSet<String> publicNames = new TreeSet<>();
        List<String> hidden = new ArrayList<>();
        for (Method method : face.getDeclaredMethods()) {
            if (Modifier.isPrivate(method.getModifiers())) {
                hidden.add(method.getName());
            } else {
                seen.add(described(method));
                publicNames.add(method.getName());
                CHECK.is(method.getName() + " is public", Modifier.isPublic(method.getModifiers()), true);
                CHECK.is(method.getName() + " is static", Modifier.isStatic(method.getModifiers()), false);
            }
        }
        for (String due : FACE) {
            CHECK.is("the face has " + due, seen.remove(due), true);
        }
        CHECK.is("the face has no more, but " + seen, seen.size(), 0);
        for (String name : hidden) {
            CHECK.is("private " + name + " is named like a public one", publicNames.contains(name), false);
        }
        return publicNames;
    }

    private static String described(Method method) {
        StringBuilder text = new StringBuilder();
        text.append(method.getReturnType().getSimpleName()).append(' ').append(method.getName()).append('(');
        text.append(String.join(", ", Arrays.stream(method.getParameterTypes()).map(Class::getSimpleName).toList()));
        text.append(')');
        for (Class<?> thrown : method.getExceptionTypes()) {
            text.append(' ').append(thrown.getSimpleName());
        }
        return text.toString();
    }

    private static void inside(Class<?> face, TreeSet<String> publicNames) {
        CHECK.is("at most some twelve classes", face.getDeclaredClasses().length <= 11, true);
        for (Class<?> inner : face.getDeclaredClasses()) {
            int modifiers = inner.getModifiers();
            CHECK.is(inner.getName() + " is static", Modifier.isStatic(modifiers), true);
            CHECK.is(inner.getName() + " is to be seen",
                    Modifier.isPublic(modifiers) || Modifier.isProtected(modifiers), false);
            for (Method method : inner.getDeclaredMethods()) {
                CHECK.is(inner.getName() + "." + method.getName() + " is named like a public one",
                        publicNames.contains(method.getName()), false);
                CHECK.is(method.getName() + " has at most seven parameters", method.getParameterCount() <= 7, true);
            }
        }
    }
}
