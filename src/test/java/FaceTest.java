import java.lang.reflect.Constructor;
import java.lang.reflect.Field;
import java.lang.reflect.Method;
import java.lang.reflect.Modifier;
import java.nio.file.Files;
import java.nio.file.Path;
import java.util.ArrayList;
import java.util.Arrays;
import java.util.List;
import java.util.TreeSet;
import java.util.regex.Matcher;
import java.util.regex.Pattern;

/** The public face is the document's and no more (rule 1 of LANGUAGE.md), and some other rules that can be looked at from here. */
public final class FaceTest {
    private static final Check CHECK = new Check("FaceTest");

    public static void main(String[] args) throws Exception {
        TreeSet<String> due = faceOfTheDocument();
        TreeSet<String> got = faceOfTheClass();
        for (String line : due) {
            CHECK.due("the class has " + line, got.contains(line), true);
        }
        for (String line : got) {
            CHECK.due("the document has " + line, due.contains(line), true);
        }
        CHECK.due("promised calls, the constructor among them", due.size(), 54);
        nothingElseIsSeen();
        staticFieldsAreFinal();
        fewClassesAndFields();
        fewParametersAndNoOtherNames();
        String source = bareSource();
        noForbiddenWords(source);
        plainThrows(source);
        shortMethods(source);
        CHECK.finish();
    }

    private static TreeSet<String> faceOfTheDocument() throws Exception {
        TreeSet<String> face = new TreeSet<>();
        String text = Files.readString(Path.of("../shared/DOC.md"));
        text = text.substring(text.indexOf("## The public face"), text.indexOf("## Terms"));
        Matcher m = Pattern.compile("public (?:(int|boolean|void) )?(\\w+)\\(([^)]*)\\)(?: throws ([^;]*))?;").matcher(text);
        while (m.find()) {
            List<String> types = new ArrayList<>();
            for (String given : m.group(3).split(",")) {
                if (!given.isBlank()) {
                    types.add(given.trim().split(" ")[0]);
                }
            }
            String thrown = m.group(4) == null ? "" : m.group(4).replace(" ", "");
            face.add((m.group(1) == null ? "new" : m.group(1)) + " " + m.group(2) + types + " " + thrown);
        }
        CHECK.due("the constant stands in the document", text.contains("public static final int NONE = -1;"), true);
        return face;
    }

    private static TreeSet<String> faceOfTheClass() {
        TreeSet<String> face = new TreeSet<>();
        for (Method m : DreamFort.class.getDeclaredMethods()) {
            if (Modifier.isPublic(m.getModifiers())) {
                CHECK.due(m.getName() + " is of the object", Modifier.isStatic(m.getModifiers()), false);
                face.add(m.getReturnType() + " " + m.getName() + names(m.getParameterTypes()) + " " + thrown(m.getExceptionTypes()));
            }
        }
        for (Constructor<?> c : DreamFort.class.getDeclaredConstructors()) {
            face.add("new DreamFort" + names(c.getParameterTypes()) + " " + thrown(c.getExceptionTypes()));
        }
        return face;
    }

    private static List<String> names(Class<?>[] types) {
        return Arrays.stream(types).map(Class::getSimpleName).toList();
    }

    private static String thrown(Class<?>[] types) {
        return String.join(",", names(types));
    }

    private static void nothingElseIsSeen() {
        CHECK.due("the class is final", Modifier.isFinal(DreamFort.class.getModifiers()), true);
        for (Method m : DreamFort.class.getDeclaredMethods()) {
            CHECK.due(m + " is public or private", (m.getModifiers() & (Modifier.PUBLIC | Modifier.PRIVATE)) != 0 || m.isSynthetic(), true);
        }
        for (Field f : DreamFort.class.getDeclaredFields()) {
            CHECK.due(f + " is private", Modifier.isPrivate(f.getModifiers()) || f.getName().equals("NONE"), true);
        }
        for (Class<?> c : DreamFort.class.getDeclaredClasses()) {
            CHECK.due(c + " is private and static", Modifier.isPrivate(c.getModifiers()) && Modifier.isStatic(c.getModifiers()), true);
        }
    }

    private static List<Class<?>> classes() {
        List<Class<?>> all = new ArrayList<>(List.of(DreamFort.class));
        all.addAll(List.of(DreamFort.class.getDeclaredClasses()));
        return all;
    }

    private static void staticFieldsAreFinal() {
        for (Class<?> c : classes()) {
            for (Field f : c.getDeclaredFields()) {
                CHECK.due(f + " is final or of an object", !Modifier.isStatic(f.getModifiers()) || Modifier.isFinal(f.getModifiers()), true);
            }
        }
    }

    private static void fewClassesAndFields() {
        CHECK.due("twelve classes at most", classes().size() <= 12, true);
        for (Class<?> c : classes()) {
            int fields = 0;
            for (Field f : c.getDeclaredFields()) {
                fields += Modifier.isStatic(f.getModifiers()) ? 0 : 1;
            }
            CHECK.due(c + " has twenty fields at most", fields <= 20, true);
        }
    }

    /** The source without its comments, and with nothing in its texts; its lines stay where they are. */
    private static String bareSource() throws Exception {
        String text = Files.readString(Path.of("src/main/java/DreamFort.java"));
        Matcher m = Pattern.compile("/\\*.*?\\*/|//[^\n]*|\"[^\"\n]*\"", Pattern.DOTALL).matcher(text);
        return m.replaceAll(found -> found.group().startsWith("\"") ? "\"\"" : found.group().replaceAll("[^\n]", ""));
    }

    private static void noForbiddenWords(String source) {
        String[] words = {"try", "catch", "finally", "synchronized", "assert", "native", "volatile", "transient", "package", "Object", "System\\.out",
            "\\w+Exact", "->", "::", "double", "float", "hashCode", "toString", "getClass", "Random", "Thread", "nanoTime", "currentTimeMillis",
            "getMessage", "protected"};
        for (String word : words) {
            String alone = Character.isLetter(word.charAt(0)) ? "\\b" + word + "\\b" : word;
            CHECK.due("the source has no " + word, Pattern.compile(alone).matcher(source).find(), false);
        }
        Matcher imports = Pattern.compile("import ([^;]*);").matcher(source);
        while (imports.find()) {
            CHECK.due("import " + imports.group(1), imports.group(1).equals("java.util.NoSuchElementException"), true);
        }
    }

    private static void plainThrows(String source) {
        Matcher m = Pattern.compile("\\bthrow\\b[^;]*;").matcher(source);
        String plain = "throw new (IllegalStateException|IllegalArgumentException|IndexOutOfBoundsException|UnsupportedOperationException"
                + "|NoSuchElementException)\\(\"\"\\);";
        while (m.find()) {
            CHECK.due(m.group() + " is plain", m.group().matches(plain), true);
        }
    }

    private static void shortMethods(String source) {
        String[] lines = source.split("\n");
        int begin = -1;
        String indent = "";
        for (int i = 0; i < lines.length; i++) {
            if (lines[i].matches(" {4,8}[a-zA-Z].*[)] ?(throws .*)?[{]") && !lines[i].matches(" *(if|for|while|switch|else|do)\\b.*")) {
                begin = i;
                indent = lines[i].substring(0, lines[i].length() - lines[i].stripLeading().length());
            } else if (begin >= 0 && lines[i].equals(indent + "}")) {
                CHECK.due("sixty lines at most: " + lines[begin].trim(), i - begin < 60, true);
                begin = -1;
            }
        }
    }

    private static void fewParametersAndNoOtherNames() {
        TreeSet<String> names = new TreeSet<>();
        for (Method m : DreamFort.class.getMethods()) {
            if (m.getDeclaringClass() == DreamFort.class) {
                names.add(m.getName());
            }
        }
        for (Class<?> c : classes()) {
            for (Method m : c.getDeclaredMethods()) {
                CHECK.due(m + " takes seven at most", m.getParameterCount() <= 7, true);
                boolean ofTheFace = c == DreamFort.class && Modifier.isPublic(m.getModifiers());
                CHECK.due(m + " bears a name of its own", ofTheFace || !names.contains(m.getName()), true);
            }
        }
    }
}
