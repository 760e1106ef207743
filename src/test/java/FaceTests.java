import java.io.IOException;
import java.lang.reflect.Constructor;
import java.lang.reflect.Executable;
import java.lang.reflect.Field;
import java.lang.reflect.Method;
import java.lang.reflect.Modifier;
import java.lang.reflect.Parameter;
import java.nio.file.Files;
import java.nio.file.Path;
import java.util.ArrayList;
import java.util.List;
import java.util.TreeSet;
import java.util.regex.Matcher;
import java.util.regex.Pattern;
import java.util.stream.Collectors;
import java.util.stream.Stream;

/** The public face against the document's code block, and what LANGUAGE.md rules out, as far as words show it. */
public final class FaceTests extends Check {
    private static final Path DOCUMENT = Path.of("../shared/DOC.md");
    private static final Path SOURCE = Path.of("src/main/java/Meshyard.java");
    private static final String[] RULED_OUT = {
        "->", "::", "\\btry\\b", "\\bcatch\\b", "\\bfinally\\b", "\\bsynchronized\\b", "\\bassert\\b", "\\binstanceof\\b",
        "\\bvar\\b", "\\bpackage\\b", "\\bMath\\.(?!abs\\b|max\\b|min\\b|floorDiv\\b|floorMod\\b)", "\\bSystem\\.(?!arraycopy\\b)",
        "Exact\\b", "\\b(equals|hashCode|toString)\\b", "\\bstatic\\s*\\{", "\\bthrow\\s+(?!new\\b)", "\\bthis\\s*[,)]",
        "import(?! java\\.util\\.NoSuchElementException;)", "\\b(Object|Class|Thread|Random)\\b", "[^\\x00-\\x7f]",
    };

    public static void main(String[] args) throws IOException {
        theFace();
        theMembers();
        theNames();
        theWords();
        end("FaceTests");
    }

    private static void theFace() throws IOException {
        TreeSet<String> due = new TreeSet<>();
        String document = Files.readString(DOCUMENT);
        int start = document.indexOf("```java");
        for (String line : document.substring(start, document.indexOf("```", start + 3)).split("\n")) {
            if (line.startsWith("    public ")) {
                due.add(line.strip());
            }
        }
        TreeSet<String> got = new TreeSet<>();
        for (Constructor<?> one : Meshyard.class.getConstructors()) {
            got.add("public " + one.getName() + told(one));
        }
        for (Method one : Meshyard.class.getDeclaredMethods()) {
            if (Modifier.isPublic(one.getModifiers())) {
                got.add("public " + one.getReturnType().getSimpleName() + " " + one.getName() + told(one));
            }
        }
        same("the face", due, got);
        same("methods and the constructor", 45, due.size());
        same("the class is public and final", Modifier.PUBLIC | Modifier.FINAL, Meshyard.class.getModifiers());
    }

    private static String told(Executable one) {
        String takes = Stream.of(one.getParameters())
            .map(p -> p.getType().getSimpleName() + " " + p.getName()).collect(Collectors.joining(", "));
        String throwing = Stream.of(one.getExceptionTypes()).map(Class::getSimpleName).collect(Collectors.joining(", "));
        return "(" + takes + ")" + (throwing.isEmpty() ? "" : " throws " + throwing) + ";";
    }

    /** Rules 1, 2, 5 and 11, of the class and of those inside it. */
    private static void theMembers() {
        List<Class<?>> all = new ArrayList<>(List.of(Meshyard.class.getDeclaredClasses()));
        isTrue("some twelve classes", all.size() <= 12);
        for (Class<?> one : all) {
            isTrue(one + " is static", Modifier.isStatic(one.getModifiers()));
            isTrue(one + " is not public", !Modifier.isPublic(one.getModifiers()));
        }
        for (Field field : Meshyard.class.getDeclaredFields()) {
            isTrue(field + " is private", Modifier.isPrivate(field.getModifiers()));
        }
        all.add(Meshyard.class);
        for (Class<?> one : all) {
            int fields = 0;
            for (Field field : one.getDeclaredFields()) {
                boolean isStatic = Modifier.isStatic(field.getModifiers());
                fields += isStatic ? 0 : 1;
                isTrue(field + " is final if static", !isStatic || Modifier.isFinal(field.getModifiers()));
            }
            isTrue(one + " has some twenty fields", fields <= 20);
            for (Method method : one.getDeclaredMethods()) {
                isTrue(method + " takes seven at most", method.getParameterCount() <= 7);
            }
        }
    }

    /** No private method bears the name of a public one. */
    private static void theNames() {
        TreeSet<String> names = new TreeSet<>();
        for (Method method : Meshyard.class.getMethods()) {
            names.add(method.getName());
        }
        for (Method method : Meshyard.class.getDeclaredMethods()) {
            int modifiers = method.getModifiers();
            isTrue(method + " is public or private", Modifier.isPublic(modifiers) || Modifier.isPrivate(modifiers));
            isTrue(method + " has a name of its own", Modifier.isPublic(modifiers) || !names.contains(method.getName()));
        }
        for (Class<?> one : Meshyard.class.getDeclaredClasses()) {
            for (Method method : one.getDeclaredMethods()) {
                isTrue(method + " has a name of its own", !names.contains(method.getName()));
            }
        }
    }

    private static void theWords() throws IOException {
        String source = Files.readString(SOURCE);
        String code = source.replaceAll("(?s)/\\*.*?\\*/", " ").replaceAll("//[^\n]*", " ").replaceAll("\"[^\"\n]*\"", "\"\"");
        for (String word : RULED_OUT) {
            Matcher found = Pattern.compile(word).matcher(code);
            same("ruled out: " + word, "", found.find() ? around(code, found.start()) : "");
        }
    }

    private static String around(String code, int at) {
        return code.substring(Math.max(0, at - 30), Math.min(code.length(), at + 30));
    }
}
