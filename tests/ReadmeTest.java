import java.lang.reflect.InvocationTargetException;
import java.lang.reflect.Method;
import java.lang.reflect.Modifier;
import java.nio.file.Files;
import java.nio.file.Path;
import java.util.List;
import java.util.NoSuchElementException;
import java.util.TreeSet;
import java.util.regex.Matcher;
import java.util.regex.Pattern;

/** README.md tells the truth: its calls answer as it says, and its table has each call of the face. */
public final class ReadmeTest {
    private static final Pattern TOLD = Pattern.compile("tell\\(x, \"([^\"]*)\"\\);");
    private static final Pattern CALL = Pattern.compile("x\\.(\\w+)\\(([^)]*)\\); +// ([-\\w]+).*");
    /** The parameters as the document names them, so that the table can't leave one out. */
    private static final String[] FACE = {
        "feed(a, b, c, d, e)", "end(n)", "fault(sort)", "text(sort)", "speech(speech, what)", "law(law)",
        "set(actor, what, v)", "mark(speech, is)", "leap(speech)", "evening(losses, i)", "ends(losses, what)",
        "night(seed)", "latest(what)", "learn(k)", "loop(what)", "hole(what)", "stops()", "from(speech)", "rows(k)",
        "chance(most)", "mean(speech, most)", "could(speech)", "fewest(parts, most, what)", "understudy(most, what)",
        "worst(most)", "silence(actor)", "spare(k, what)", "players(near, actor)", "shortest(k, what)",
        "longest(k, what)", "visits(speech, most)", "trial(n, what)", "doubtful(actor)", "reword(what)", "image()",
        "back()", "count(what)",
    };

    public static void main(String[] args) throws Exception {
        List<String> page = Files.readAllLines(Path.of("README.md"));
        calls(page);
        table(page);
        Desk.end();
    }

    private static void calls(List<String> page) throws Exception {
        Desk.sentence("README.md: how a program uses the class");
        SheSays x = null;
        int made = 0;
        for (String line : page) {
            Matcher told = TOLD.matcher(line);
            Matcher call = CALL.matcher(line);
            if (line.equals("SheSays x = new SheSays();")) {
                x = new SheSays();
            } else if (told.matches()) {
                Desk.feed(x, told.group(1));
            } else if (call.matches()) {
                made++;
                String got = answer(x, call.group(1), call.group(2));
                Desk.holds(line.trim() + " answered " + got, got.equals(call.group(3)));
            }
        }
        Desk.holds("the page makes calls", made > 20);
    }

    private static String answer(SheSays x, String name, String arguments) throws Exception {
        for (Method method : SheSays.class.getMethods()) {
            if (method.getName().equals(name) && method.getDeclaringClass() == SheSays.class) {
                return answer(x, method, arguments.isEmpty() ? new String[0] : arguments.split(", "));
            }
        }
        return "no such call";
    }

    private static String answer(SheSays x, Method method, String[] texts) throws Exception {
        Object[] values = new Object[texts.length];
        for (int i = 0; i < texts.length; i++) {
            Class<?> type = method.getParameterTypes()[i];
            if (type == boolean.class) {
                values[i] = Boolean.valueOf(texts[i]);
            } else if (type == long.class) {
                values[i] = Long.valueOf(texts[i].replace("L", ""));
            } else {
                values[i] = Integer.valueOf(texts[i]);
            }
        }
        try {
            return String.valueOf(method.invoke(x, values));
        } catch (InvocationTargetException e) {
            return e.getCause() instanceof NoSuchElementException ? "NoSuchElementException" : e.getCause().toString();
        }
    }

    private static void table(List<String> page) {
        Desk.sentence("README.md: what is refused and how it answers");
        TreeSet<String> names = new TreeSet<>();
        for (Method method : SheSays.class.getDeclaredMethods()) {
            if (Modifier.isPublic(method.getModifiers())) {
                names.add(method.getName() + " " + method.getParameterCount());
            }
        }
        TreeSet<String> listed = new TreeSet<>();
        for (String call : FACE) {
            String name = call.substring(0, call.indexOf('('));
            listed.add(name + " " + (call.contains("()") ? 0 : call.split(",").length));
            Desk.due("rows of the table with " + call, rowsWith(page, call), 1);
        }
        Desk.holds("the table is of the whole face", names.equals(listed));
        Desk.sentence("README.md: the command that runs its tests");
        Desk.holds("it is told", page.contains("bash .ci/run"));
    }

    private static long rowsWith(List<String> page, String call) {
        long found = 0;
        for (String line : page) {
            String[] cells = line.split("\\|");
            boolean isRow = cells.length == 5 && cells[1].contains("`" + call + "`");
            found += isRow && !cells[2].isBlank() && !cells[3].isBlank() && !cells[4].isBlank() ? 1 : 0;
        }
        return found;
    }
}
