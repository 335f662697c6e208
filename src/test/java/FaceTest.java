import java.io.IOException;
import java.lang.reflect.Constructor;
import java.lang.reflect.Field;
import java.lang.reflect.Method;
import java.lang.reflect.Modifier;
import java.nio.file.Files;
import java.nio.file.Path;
import java.util.ArrayList;
import java.util.Arrays;
import java.util.List;
import java.util.Set;
import java.util.TreeSet;
import java.util.regex.Matcher;
import java.util.regex.Pattern;

/** The public face, as the document writes it, and what LANGUAGE.md asks that can be seen from outside. */
public final class FaceTest {
    private static final String[] FACE = {"thing(int,int)", "told(int,int)", "set(int,int,int)", "stretch(int,boolean)", "of(int,int)",
        "bag(int,int,int)", "arm(int,int)", "rule(int,int,int)", "off()", "type(int)", "market()", "count(int)", "load(int,int)",
        "lawful()", "pull(int)", "uneven(int)", "best(int)", "pack()", "evenest(int,int)", "moved(int,int,int)", "hands(int,int)",
        "buying(int)", "paper(int,int)", "pole(int,int,int,int)", "bar(int,int)", "hung(int,int)", "image()", "restore()",
        "tray(int,int,int,int,int)", "pulled(int,int,int,int)", "film(int,int,int)", "lay(int,int,int)", "sheet(int,int,int)",
        "drop(int)", "item(int,int,int,long)", "copy(int,int,int,int,int)"};
    private static final String[] NAMES = {"BAD", "NOT", "FULL", "NONE", "NULL", "CAST", "INDEX", "SIZE"};
    private static final int[] VALUES = {-1, -2, -3, -4, -11, -12, -13, -14};

    private static String signature(Method m) {
        StringBuilder s = new StringBuilder(m.getName()).append('(');
        for (Class<?> type : m.getParameterTypes()) {
            s.append(s.charAt(s.length() - 1) == '(' ? "" : ",").append(type.getName());
        }
        return s.append(')').toString();
    }

    private static void methods() {
        Set<String> due = new TreeSet<>(Arrays.asList(FACE));
        Set<String> names = new TreeSet<>();
        for (String f : FACE) {
            names.add(f.substring(0, f.indexOf('(')));
        }
        for (Method m : EvenBags.class.getDeclaredMethods()) {
            if (Modifier.isPublic(m.getModifiers())) {
                Check.due("the document has " + signature(m), due.remove(signature(m)));
                Check.due(signature(m) + " answers an int", m.getReturnType() == int.class);
                Check.due(signature(m) + " is no static one", !Modifier.isStatic(m.getModifiers()));
            } else {
                Check.due(signature(m) + " is private", Modifier.isPrivate(m.getModifiers()));
                Check.due(signature(m) + " has a name of its own", !names.contains(m.getName()));
            }
        }
        Check.due("the class lacks " + due, due.isEmpty());
    }

    private static void fields() throws IllegalAccessException {
        Set<String> due = new TreeSet<>(Arrays.asList(NAMES));
        for (Field f : EvenBags.class.getDeclaredFields()) {
            if (Modifier.isPublic(f.getModifiers())) {
                Check.due("the document has " + f.getName(), due.remove(f.getName()));
                Check.due(f.getName() + " is a constant", Modifier.isStatic(f.getModifiers()) && Modifier.isFinal(f.getModifiers()));
                Check.due(f.getName(), f.getInt(null), VALUES[Arrays.asList(NAMES).indexOf(f.getName())]);
            } else {
                Check.due(f.getName() + " is private", Modifier.isPrivate(f.getModifiers()));
            }
        }
        Check.due("the class lacks " + due, due.isEmpty());
    }

    private static void classes() {
        Check.due("final and public", Modifier.isFinal(EvenBags.class.getModifiers()) && Modifier.isPublic(EvenBags.class.getModifiers()));
        Constructor<?>[] all = EvenBags.class.getDeclaredConstructors();
        Check.due("one constructor", all.length, 1);
        Check.due("without parameters", all[0].getParameterCount(), 0);
        Class<?>[] inside = EvenBags.class.getDeclaredClasses();
        Check.due("some twelve classes", inside.length <= 12);
        for (Class<?> c : inside) {
            Check.due(c + " is static and hidden", Modifier.isStatic(c.getModifiers()) && !Modifier.isPublic(c.getModifiers())
                && !Modifier.isProtected(c.getModifiers()));
            int own = 0;
            for (Field f : c.getDeclaredFields()) {
                own += Modifier.isStatic(f.getModifiers()) ? 0 : 1;
                Check.due(f + " is no static state", !Modifier.isStatic(f.getModifiers()) || Modifier.isFinal(f.getModifiers()));
            }
            Check.due(c + " has some twenty fields", own <= 20);
        }
    }

    /** Of the library only what rule 4 lists and the class uses; its constants (Integer.MAX_VALUE) are not listed. */
    private static void library() throws IOException {
        Set<String> listed = new TreeSet<>(Arrays.asList("Math.abs(", "Math.max(", "Math.min(", "System.arraycopy(", "KINDS.indexOf("));
        String code = Files.readString(Path.of("src/main/java/EvenBags.java")).replaceAll("/\\*(?s:.*?)\\*/|//.*", "");
        Matcher used = Pattern.compile("\\b[A-Z]\\w*\\s*\\.\\s*\\w+\\(?").matcher(code);
        while (used.find()) {
            Check.due(used.group() + " is listed by rule 4", listed.contains(used.group()));
        }
        Set<String> own = new TreeSet<>();
        for (Class<?> c : EvenBags.class.getDeclaredClasses()) {
            own.add(c.getSimpleName());
        }
        Matcher made = Pattern.compile("\\bnew (\\w+)").matcher(code);
        while (made.find()) {
            String type = made.group(1);
            Check.due("new " + type, own.contains(type) || type.matches("int|long|char"));
        }
    }

    private static void parameters() {
        List<Class<?>> all = new ArrayList<>(Arrays.asList(EvenBags.class.getDeclaredClasses()));
        all.add(EvenBags.class);
        for (Class<?> c : all) {
            for (Method m : c.getDeclaredMethods()) {
                Check.due(m + " takes at most seven parameters", m.getParameterCount() <= 7);
            }
        }
    }

    private static void words() throws IOException {
        String source = Files.readString(Path.of("src/main/java/EvenBags.java"));
        String[] never = {"->", "::", "try", "catch", "throw", "finally", "synchronized", "assert", "import", "package", "double",
            "float", "native", "volatile", "transient", "System.out", "System.in", "Exact"};
        for (String word : never) {
            String code = source.replaceAll("/\\*(?s:.*?)\\*/|//.*", "");
            Matcher m = Pattern.compile("(?<!\\w)" + Pattern.quote(word) + "(?!\\w)").matcher(code);
            Check.due("the class does without " + word, !m.find());
        }
        int start = 0;
        int number = 0;
        for (String line : source.split("\n")) {
            number++;
            if (line.matches(" +(public|private|static|int|boolean|void|long|abstract)[^=;]*\\) \\{")) {
                start = number;
            }
            if (line.matches(" {4,8}\\}") && start > 0) {
                Check.due("some sixty lines at " + start, number - start <= 60);
            }
        }
        for (char c : source.toCharArray()) {
            if (c != '\n' && (c < 32 || c > 126)) {
                Check.due("plain letters alone", false);
            }
        }
    }

    public static void main(String[] args) throws IllegalAccessException, IOException {
        methods();
        fields();
        classes();
        parameters();
        library();
        words();
        Check.end();
    }
}
