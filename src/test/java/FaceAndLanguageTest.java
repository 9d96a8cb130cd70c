import java.io.IOException;
import java.lang.reflect.Constructor;
import java.lang.reflect.Executable;
import java.lang.reflect.Field;
import java.lang.reflect.Method;
import java.lang.reflect.Modifier;
import java.nio.file.Files;
import java.nio.file.Path;
import java.util.ArrayList;
import java.util.List;
import java.util.Set;
import java.util.TreeSet;
import java.util.regex.Matcher;
import java.util.regex.Pattern;

/** The face against the document's, and those rules of ../shared/LANGUAGE.md that can be looked up. */
public final class FaceAndLanguageTest {
    private static final Path DOCUMENT = Path.of("../shared/DOC.md");
    private static final Path SOURCE = Path.of("src/main/java/FrogParliament.java");

    public static void main(String[] args) throws IOException {
        face();
        visibility();
        namesOfPrivateMethods();
        staticFields();
        words();
        sizes();
        Check.end("FaceAndLanguageTest");
    }

    private static void face() throws IOException {
        Set<String> due = new TreeSet<>();
        String document = Files.readString(DOCUMENT);
        String block = document.substring(document.indexOf("```java"));
        for (String line : block.substring(0, block.indexOf("\n}")).split("\n")) {
            if (line.startsWith("    public ")) {
                due.add(line.trim().replace(";", "")
                        .replaceAll("(\\w+) \\w+(?=[^()]*\\))", "$1"));
            }
        }
        Set<String> got = new TreeSet<>();
        for (Method method : FrogParliament.class.getDeclaredMethods()) {
            if (Modifier.isPublic(method.getModifiers())) {
                got.add("public " + method.getReturnType().getSimpleName() + " " + named(method));
            }
        }
        for (Constructor<?> constructor : FrogParliament.class.getDeclaredConstructors()) {
            got.add("public " + named(constructor));
        }
        Check.equal("the number of the face's members", 54, due.size());
        Check.equal("the face", String.join("\n", due), String.join("\n", got));
    }

    private static String named(Executable member) {
        List<String> parameters = new ArrayList<>();
        for (Class<?> type : member.getParameterTypes()) {
            parameters.add(type.getSimpleName());
        }
        List<String> thrown = new ArrayList<>();
        for (Class<?> type : member.getExceptionTypes()) {
            thrown.add(type.getSimpleName());
        }
        String name = member.getName().substring(member.getName().lastIndexOf('.') + 1);
        return name + "(" + String.join(", ", parameters) + ")"
                + (thrown.isEmpty() ? "" : " throws " + String.join(", ", thrown));
    }

    private static void visibility() {
        Class<?> face = FrogParliament.class;
        Check.equal("the class's modifiers", Modifier.PUBLIC | Modifier.FINAL, face.getModifiers());
        for (Method method : face.getDeclaredMethods()) {
            int modifiers = method.getModifiers();
            boolean due = modifiers == Modifier.PUBLIC || Modifier.isPrivate(modifiers);
            Check.equal("visibility of " + method.getName(), true, due || method.isSynthetic());
        }
        for (Field field : face.getDeclaredFields()) {
            Check.equal("visibility of " + field.getName(), true,
                    Modifier.isPrivate(field.getModifiers()));
        }
        for (Class<?> inside : face.getDeclaredClasses()) {
            int modifiers = inside.getModifiers();
            Check.equal("visibility of " + inside.getName(), true,
                    Modifier.isPrivate(modifiers) && Modifier.isStatic(modifiers));
        }
    }

    private static void namesOfPrivateMethods() {
        Set<String> names = new TreeSet<>();
        for (Method method : FrogParliament.class.getDeclaredMethods()) {
            if (Modifier.isPublic(method.getModifiers())) {
                names.add(method.getName());
            }
        }
        List<Class<?>> classes = new ArrayList<>(List.of(FrogParliament.class.getDeclaredClasses()));
        classes.add(FrogParliament.class);
        for (Class<?> inside : classes) {
            for (Method method : inside.getDeclaredMethods()) {
                if (!Modifier.isPublic(method.getModifiers())) {
                    Check.equal("a private method has the public name " + method.getName(), false,
                            names.contains(method.getName()));
                }
            }
        }
    }

    private static void staticFields() {
        List<Class<?>> classes = new ArrayList<>(List.of(FrogParliament.class.getDeclaredClasses()));
        classes.add(FrogParliament.class);
        Check.equal("at most 12 classes", true, classes.size() <= 12);
        for (Class<?> inside : classes) {
            int fields = 0;
            for (Field field : inside.getDeclaredFields()) {
                boolean isStatic = Modifier.isStatic(field.getModifiers());
                fields += isStatic ? 0 : 1;
                Check.equal("final or not static: " + field.getName(), true,
                        !isStatic || Modifier.isFinal(field.getModifiers()));
            }
            Check.equal("at most 20 fields in " + inside.getName(), true, fields <= 20);
        }
    }

    private static String code() throws IOException {
        return Files.readString(SOURCE).replaceAll("(?s)/\\*.*?\\*/", "")
                .replaceAll("//[^\n]*", "").replaceAll("\"[^\"\n]*\"", "\"\"");
    }

    private static void words() throws IOException {
        String code = code();
        String[] ruledOut = {"\\bpackage\\b", "\\bcatch\\b", "\\btry\\b", "\\bfinally\\b",
            "\\bassert\\b", "\\bsynchronized\\b", "->", "::", "\\binstanceof\\b", "\\bMath\\.\\w+Exact",
            "\"\" *\\+", "\\+ *\"\"", "\\bstatic *\\{", "\\bequals\\b", "\\bhashCode\\b",
            "\\btoString\\b", "\\bnull\\b", "\\bcase '"};
        for (String word : ruledOut) {
            Check.equal(word + " in the code", false, Pattern.compile(word).matcher(code).find());
        }
        Matcher imports = Pattern.compile("import ([^;]*);").matcher(code);
        while (imports.find()) {
            Check.equal("an import", "java.util.NoSuchElementException", imports.group(1));
        }
        Matcher thrown = Pattern.compile("\\bthrow ([^(]*)\\(").matcher(code);
        while (thrown.find()) {
            Check.equal("a throw of " + thrown.group(1), true, thrown.group(1).matches(
                    "new (IllegalState|IllegalArgument|IndexOutOfBounds|Arithmetic"
                    + "|UnsupportedOperation|NoSuchElement)Exception"));
        }
    }

    private static void sizes() throws IOException {
        int length = 0;
        int indent = 0;
        for (String line : code().split("\n")) {
            int spaces = line.length() - line.stripLeading().length();
            boolean opens = line.matches("( {4}| {8})(public|private) [^;=]*\\(.*");
            if (length == 0 && opens) {
                indent = spaces;
                length = 1;
            } else if (length > 0) {
                length++;
                if (spaces == indent && line.strip().equals("}")) {
                    Check.equal("a method of at most 60 lines, up to " + line, true, length <= 60);
                    length = 0;
                }
            }
        }
        Check.equal("all methods are measured", 0, length);
    }
}
