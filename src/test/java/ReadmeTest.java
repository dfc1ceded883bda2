import java.lang.reflect.Method;
import java.lang.reflect.Modifier;
import java.nio.file.Files;
import java.nio.file.Path;
import java.util.ArrayList;
import java.util.List;
import java.util.Set;
import java.util.TreeSet;
import java.util.regex.Matcher;
import java.util.regex.Pattern;

/** README.md: its examples answer as it says; it names every call with its answers below 0. */
public final class ReadmeTest {
    private static final Pattern CALL = Pattern.compile("x\\.(\\w+)\\((.*)\\); *// (-?\\d+|\"[^\"]*\").*");
    private static final Pattern NAMED = Pattern.compile("\\| `(\\w+)\\(([^)]*)\\)` \\|.*\\|([^|\n]*)\\|");

    public static void main(String[] args) throws Exception {
        String page = Files.readString(Path.of("README.md"));
        int answers = 0;
        for (String block : blocks(page)) {
            answers += block.contains("static void tell") ? 0 : examples(block);
        }
        Check.due("README.md has examples", answers > 15 ? 1 : 0, 1);
        calls(page);
        Check.end();
    }

    private static List<String> blocks(String page) {
        List<String> blocks = new ArrayList<>();
        Matcher m = Pattern.compile("```java\n(.*?)```", Pattern.DOTALL).matcher(page);
        while (m.find()) {
            blocks.add(m.group(1));
        }
        return blocks;
    }

    /** How many calls of a block were made; each answers the number behind it, or writes the text there. */
    private static int examples(String block) throws Exception {
        BathNight x = new BathNight();
        int length = 0;
        int made = 0;
        Matcher tell = Pattern.compile("tell\\(x, ([^;]*;)*?\"\\);").matcher(block);
        if (tell.find()) {
            StringBuilder text = new StringBuilder();
            Matcher part = Pattern.compile("\"([^\"]*)\"").matcher(tell.group());
            while (part.find()) {
                text.append(part.group(1));
            }
            Check.tell(x, text.toString());
        }
        for (String line : block.split("\n")) {
            Matcher m = CALL.matcher(line);
            if (!m.matches()) {
                Check.due("not a call with its answer: " + line,
                    line.startsWith("x.") ? 1 : 0, 0);
                continue;
            }
            made++;
            int got = call(x, m.group(1), m.group(2));
            if (m.group(3).startsWith("\"")) {
                length += m.group(3).length() - 2;
                Check.due(line, got, length);
                Check.due(line, written(m.group(2)).equals(m.group(3)) ? 1 : 0, 1);
            } else {
                Check.due(line, got, Integer.parseInt(m.group(3)));
            }
        }
        return made;
    }

    /** The text that the arguments of a write are, in quotes. */
    private static String written(String arguments) {
        String[] parts = arguments.split(", ");
        int n = Integer.parseInt(parts[0]);
        long v = Long.decode(parts[1].replace("L", ""));
        StringBuilder text = new StringBuilder("\"");
        for (int k = n - 1; k >= 0; k--) {
            text.append((char) (v >> 8 * k & 0xff));
        }
        return text.append('"').toString();
    }

    private static int call(BathNight x, String name, String arguments) throws Exception {
        for (Method method : BathNight.class.getDeclaredMethods()) {
            if (method.getName().equals(name) && Modifier.isPublic(method.getModifiers())) {
                Class<?>[] types = method.getParameterTypes();
                String[] parts = arguments.isEmpty() ? new String[0] : arguments.split(", ");
                Object[] values = new Object[types.length];
                for (int k = 0; k < types.length; k++) {
                    values[k] = types[k] == boolean.class ? (Object) Boolean.valueOf(parts[k])
                        : types[k] == long.class ? (Object) Long.decode(parts[k].replace("L", ""))
                        : (Object) Integer.valueOf(parts[k]);
                }
                return (Integer) method.invoke(x, values);
            }
        }
        throw new IllegalArgumentException("no such call: " + name);
    }

    /** Each call is named once, with as many arguments and the answers below 0 that the document has. */
    private static void calls(String page) throws Exception {
        String document = Files.readString(Path.of("../shared/DOC.md"));
        Set<String> named = new TreeSet<>();
        Matcher m = NAMED.matcher(page);
        while (m.find()) {
            String name = m.group(1);
            Check.due("README.md names " + name + " once", named.add(name) ? 1 : 0, 1);
            Matcher promise = Pattern.compile("`int " + name + "\\(([^)]*)\\)`: (.*)").matcher(document);
            Check.due("the document has " + name, promise.find() ? 1 : 0, 1);
            Check.due("how many arguments " + name + " takes", arguments(m.group(2)), arguments(promise.group(1)));
            for (String answer : new String[] {"BAD", "NO", "FULL", "NONE"}) {
                Pattern word = Pattern.compile("\\b" + answer + "\\b");
                Check.due("README.md: " + name + " answers " + answer, word.matcher(m.group(3)).find() ? 1 : 0,
                    word.matcher(promise.group(2)).find() ? 1 : 0);
            }
        }
        for (Method method : BathNight.class.getDeclaredMethods()) {
            if (Modifier.isPublic(method.getModifiers())) {
                Check.due("README.md names " + method.getName(), named.contains(method.getName()) ? 1 : 0, 1);
            }
        }
    }

    private static int arguments(String list) {
        return list.isEmpty() ? 0 : list.split(",").length;
    }
}
