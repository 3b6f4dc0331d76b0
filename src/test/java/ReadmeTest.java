import java.io.IOException;
import java.lang.reflect.InvocationTargetException;
import java.lang.reflect.Method;
import java.nio.file.Files;
import java.nio.file.Path;
import java.util.Set;
import java.util.TreeSet;
import java.util.regex.Matcher;
import java.util.regex.Pattern;

/** README.md tells the truth: its calls answer what stands behind them, and it names every call. Runs in the project's folder. */
public final class ReadmeTest {
    private static final Due due = new Due("ReadmeTest");
    private static final Pattern NEW = Pattern.compile("CableCars x = new CableCars\\(\\);");
    private static final Pattern TYPED = Pattern.compile("for \\(char b : \"([^\"]*)\"\\.toCharArray\\(\\)\\) x\\.type\\((\\d), b\\);.*");
    private static final Pattern CALL = Pattern.compile("x\\.(\\w+)\\(([^()]*)\\); *// (-?\\d+)\\b.*");

    private static CableCars x = null;
    private static int calls = 0;

    public static void main(String[] args) throws IOException, ReflectiveOperationException {
        String page = Files.readString(Path.of("README.md"));
        Matcher block = Pattern.compile("(?s)```java\n(.*?)```").matcher(page);
        while (block.find()) {
            for (String line : block.group(1).split("\n")) {
                follow(line);
            }
        }
        due.holds("the page has calls (" + calls + ")", calls > 20);
        for (String name : publicNames()) {
            due.holds("the page names " + name, page.contains("`" + name + "`"));
        }
        due.holds("the page tells how the tests run", page.contains(".ci/run"));
        for (String test : new String[] {"CAST", "NULL", "INDEX", "STORE", "SIZE", "`BAD`", "`NOT`", "`FULL`", "`NONE`"}) {
            due.holds("the page names " + test, page.contains(test));
        }
        due.end();
    }

    private static void follow(String line) throws ReflectiveOperationException {
        Matcher typed = TYPED.matcher(line);
        Matcher call = CALL.matcher(line);
        if (NEW.matcher(line).matches()) {
            x = new CableCars();
        } else if (x != null && typed.matches()) {
            Due.typeAll(x, Integer.parseInt(typed.group(2)), typed.group(1));
        } else if (x != null && call.matches()) {
            calls++;
            due.is(line, answer(call.group(1), call.group(2)), Long.parseLong(call.group(3)));
        } else {
            due.tell("cannot follow: " + line);
        }
    }

    private static long answer(String name, String list) throws ReflectiveOperationException {
        String[] told = list.isEmpty() ? new String[0] : list.split(", *");
        Object[] numbers = new Object[told.length];
        Class<?>[] types = new Class<?>[told.length];
        for (int i = 0; i < told.length; i++) {
            numbers[i] = told[i].equals("CableCars.NONE") ? CableCars.NONE : Integer.parseInt(told[i]);
            types[i] = int.class;
        }
        try {
            return ((Number) CableCars.class.getMethod(name, types).invoke(x, numbers)).longValue();
        } catch (InvocationTargetException e) {
            due.tell(name + "(" + list + ") threw " + e.getCause());
            return 0;
        }
    }

    private static Set<String> publicNames() {
        Set<String> names = new TreeSet<>();
        for (Method m : CableCars.class.getDeclaredMethods()) {
            if (java.lang.reflect.Modifier.isPublic(m.getModifiers())) {
                names.add(m.getName());
            }
        }
        return names;
    }
}
