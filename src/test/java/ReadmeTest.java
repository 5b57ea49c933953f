import java.lang.reflect.InvocationTargetException;
import java.lang.reflect.Method;
import java.lang.reflect.Modifier;
import java.nio.file.Files;
import java.nio.file.Path;
import java.util.regex.Matcher;
import java.util.regex.Pattern;

/** README.md tells the truth: its examples are run line by line, on one object, in the order in which they stand. */
public final class ReadmeTest {
    private static final Check CHECK = new Check("ReadmeTest");
    private static final Pattern CALL = Pattern.compile("fort\\.(\\w+)\\((.*)\\); // (throws \\w+|-?\\w+)(:.*)?");
    private static final Pattern PUT = Pattern.compile("put\\(fort, \"([^\"]*)\"\\);");

    private static DreamFort fort;

    public static void main(String[] args) throws Exception {
        String readme = Files.readString(Path.of("README.md"));
        Matcher block = Pattern.compile("```java\n(.*?)```", Pattern.DOTALL).matcher(readme);
        int examples = 0;
        while (block.find()) {
            if (block.group(1).startsWith("static void put")) {
                helperIsTheOneUsedHere(block.group(1));
            } else {
                examples++;
                run(block.group(1));
            }
        }
        CHECK.due("examples in README.md", examples, 3);
        everyCallIsNamed(readme);
        CHECK.finish();
    }

    private static void run(String example) throws Exception {
        for (String line : example.split("\n")) {
            Matcher call = CALL.matcher(line);
            Matcher text = PUT.matcher(line);
            if (line.equals("DreamFort fort = new DreamFort();")) {
                fort = new DreamFort();
            } else if (text.matches()) {
                put(fort, text.group(1));
            } else if (call.matches()) {
                String got = answer(call.group(1), call.group(2));
                CHECK.due(line + " answers " + got, got.equals(call.group(3)), true);
            } else {
                CHECK.due("can be run: " + line, line.startsWith("// "), true);
            }
        }
    }

    private static String answer(String name, String given) throws Exception {
        String[] words = given.isEmpty() ? new String[0] : given.split(", ");
        Method method = methodOf(name);
        Object[] values = new Object[words.length];
        for (int i = 0; i < words.length; i++) {
            boolean number = method.getParameterTypes()[i] == int.class;
            values[i] = number ? (Object) Long.decode(words[i]).intValue() : (Object) words[i].equals("true");
        }
        try {
            Object got = method.invoke(fort, values);
            return got == null ? "nothing" : got.toString();
        } catch (InvocationTargetException e) {
            return "throws " + e.getCause().getClass().getSimpleName();
        }
    }

    private static Method methodOf(String name) {
        for (Method method : DreamFort.class.getDeclaredMethods()) {
            if (Modifier.isPublic(method.getModifiers()) && method.getName().equals(name)) {
                return method;
            }
        }
        throw new IllegalArgumentException("README.md has a call that there is not: " + name);
    }

    private static void helperIsTheOneUsedHere(String helper) throws Exception {
        String source = Files.readString(Path.of("src/test/java/ReadmeTest.java"));
        String indented = helper.replaceAll("(?m)^(?=.)", "    ").replaceFirst("    static", "    private static");
        CHECK.due("put of README.md is put of this test", source.contains(indented), true);
    }

    private static void everyCallIsNamed(String readme) {
        for (Method method : DreamFort.class.getDeclaredMethods()) {
            if (Modifier.isPublic(method.getModifiers())) {
                int parameters = method.getParameterCount();
                String given = parameters == 0 ? "" : "\\w+" + ", \\w+".repeat(parameters - 1);
                boolean named = Pattern.compile("`" + method.getName() + "\\(" + given + "\\)`").matcher(readme).find();
                CHECK.due("README.md names " + method.getName(), named, true);
            }
        }
    }

    private static void put(DreamFort fort, String text) {
        fort.end(0);
        for (int at = 0; at < text.length(); at += 20) {
            int[] numbers = new int[5];
            for (int i = 0; i < 20; i++) {
                int sign = at + i < text.length() ? text.charAt(at + i) & 255 : 0;
                numbers[i / 4] = numbers[i / 4] << 8 | sign;
            }
            fort.feed(numbers[0], numbers[1], numbers[2], numbers[3], numbers[4]);
        }
        fort.end(text.length());
    }
}
