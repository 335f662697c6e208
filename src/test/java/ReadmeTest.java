import java.io.IOException;
import java.lang.reflect.Field;
import java.lang.reflect.Method;
import java.lang.reflect.Modifier;
import java.lang.reflect.Parameter;
import java.nio.file.Files;
import java.nio.file.Path;
import java.util.HashMap;
import java.util.Map;
import java.util.Set;
import java.util.TreeSet;
import java.util.regex.Matcher;
import java.util.regex.Pattern;

/** What README.md says of calls and answers, held against the class. */
public final class ReadmeTest {
    private static final Pattern MADE = Pattern.compile("EvenBags x = new EvenBags\\(\\);");
    private static final Pattern ASKED = Pattern.compile("(?:int (\\w+) = )?x\\.(\\w+)\\((.*)\\); +// (-?\\d+|[A-Z]+)(?:: .*)?");
    private static final Pattern TYPED = Pattern.compile("for \\(char c : \"(.*)\"\\.toCharArray\\(\\)\\) \\{");
    private static final Pattern CALL_ROW = Pattern.compile("\\| `(\\w+)\\((.*?)\\)` \\| .* \\|");
    private static final Pattern REFUSAL_ROW = Pattern.compile("\\| `([A-Z]+)` \\| (-\\d+) \\| .* \\|");

    private ReadmeTest() {
    }

    private static int constant(String name) throws ReflectiveOperationException {
        return EvenBags.class.getField(name).getInt(null);
    }

    private static Method call(String name) {
        for (Method m : EvenBags.class.getDeclaredMethods()) {
            if (Modifier.isPublic(m.getModifiers()) && m.getName().equals(name)) {
                return m;
            }
        }
        throw new IllegalStateException("README.md calls " + name + ", which the class does not have");
    }

    private static String[] split(String list) {
        return list.isEmpty() ? new String[0] : list.split(", ");
    }

    private static Object argument(String word, Class<?> type, Map<String, Integer> named) {
        if (type == boolean.class) {
            return word.equals("true");
        }
        int v = named.containsKey(word) ? named.get(word) : Integer.parseInt(word);
        if (type == long.class) {
            return (long) v;
        }
        return v;
    }

    private static void ask(EvenBags x, Matcher line, Map<String, Integer> named) throws ReflectiveOperationException {
        Method m = call(line.group(2));
        String[] words = split(line.group(3));
        Object[] with = new Object[words.length];
        for (int k = 0; k < words.length; k++) {
            with[k] = argument(words[k], m.getParameterTypes()[k], named);
        }
        int got = (Integer) m.invoke(x, with);
        String due = line.group(4);
        Check.due(line.group(), got, due.matches("-?\\d+") ? Integer.parseInt(due) : constant(due));
        if (line.group(1) != null) {
            named.put(line.group(1), got);
        }
    }

    /** An example is read line by line; a line that is none of the forms above is a fault of README.md. */
    private static void example(String text) throws ReflectiveOperationException {
        EvenBags x = new EvenBags();
        Map<String, Integer> named = new HashMap<>();
        int asked = 0;
        String toType = "";
        for (String line : text.trim().split("\n")) {
            String words = line.trim();
            Matcher made = MADE.matcher(words);
            Matcher asking = ASKED.matcher(words);
            Matcher typing = TYPED.matcher(words);
            if (asking.matches()) {
                ask(x, asking, named);
                asked++;
            } else if (typing.matches()) {
                toType = typing.group(1);
            } else if (words.equals("x.type(c);")) {
                for (char c : toType.toCharArray()) {
                    x.type(c);
                }
            } else {
                Check.due("README.md has an example that can be read: " + words, made.matches() || words.equals("}"));
            }
        }
        Check.due("the example asks something", asked > 0);
    }

    private static void examples(String readme) throws ReflectiveOperationException {
        Matcher blocks = Pattern.compile("```java\n(.*?)```", Pattern.DOTALL).matcher(readme);
        int count = 0;
        while (blocks.find()) {
            example(blocks.group(1));
            count++;
        }
        Check.due("README.md has examples", count, 3);
    }

    private static void tableOfCalls(String readme) {
        Set<String> left = new TreeSet<>();
        for (Method m : EvenBags.class.getDeclaredMethods()) {
            if (Modifier.isPublic(m.getModifiers())) {
                left.add(m.getName());
            }
        }
        for (String line : readme.split("\n")) {
            Matcher row = CALL_ROW.matcher(line);
            if (row.matches()) {
                Check.due("a call once: " + line, left.remove(row.group(1)));
                Parameter[] due = call(row.group(1)).getParameters();
                Check.due("as many arguments: " + line, split(row.group(2)).length, due.length);
            }
        }
        Check.due("README.md lacks " + left, left.isEmpty());
    }

    private static void tableOfRefusals(String readme) throws ReflectiveOperationException {
        Set<String> left = new TreeSet<>();
        for (Field f : EvenBags.class.getFields()) {
            left.add(f.getName());
        }
        for (String line : readme.split("\n")) {
            Matcher row = REFUSAL_ROW.matcher(line);
            if (row.matches()) {
                Check.due("a constant once: " + line, left.remove(row.group(1)));
                Check.due(line, constant(row.group(1)), Integer.parseInt(row.group(2)));
            }
        }
        Check.due("README.md lacks " + left, left.isEmpty());
    }

    public static void main(String[] args) throws IOException, ReflectiveOperationException {
        String readme = Files.readString(Path.of("README.md"));
        examples(readme);
        tableOfCalls(readme);
        tableOfRefusals(readme);
        Check.end();
    }
}
