import java.io.IOException;
import java.lang.management.ManagementFactory;
import java.lang.reflect.Field;
import java.lang.reflect.Method;
import java.lang.reflect.Modifier;
import java.nio.file.Files;
import java.nio.file.Path;
import java.util.ArrayList;
import java.util.Arrays;
import java.util.List;
import java.util.NoSuchElementException;
import java.util.Random;
import java.util.TreeSet;
import java.util.regex.Matcher;
import java.util.regex.Pattern;

/** The public face, what LANGUAGE.md asks of the file, odd arguments to every call, and what the dearest calls cost. */
public final class FaceTest {
    private static final String[] FACE = {
        "int feed(int,int,int,int,int)", "boolean end(int)", "int fault(int)", "int text(int)", "int speech(int,int)",
        "boolean law(int)", "boolean set(int,int,int)", "boolean mark(int,boolean)", "int leap(int)",
        "int evening(int,int)", "int ends(int,int)", "int night(long)", "int latest(int)", "int learn(int)",
        "int loop(int)", "int hole(int)", "int stops()", "int from(int)", "int rows(int)", "int chance(int)",
        "int mean(int,int)", "int could(int)", "int fewest(int,int,int)", "int understudy(int,int)", "int worst(int)",
        "int silence(int)", "int spare(int,int)", "int players(int,int)", "int shortest(int,int)",
        "int longest(int,int)", "long visits(int,int)", "int trial(int,int)", "int doubtful(int)", "int reword(int)",
        "int image()", "int back()", "int count(int)",
    };
    private static int wrong;

    private static void holds(String what, boolean is) {
        if (!is) {
            wrong++;
            System.out.println("not so: " + what);
        }
    }

    public static void main(String[] args) throws Exception {
        face();
        file();
        for (int seed = 1; seed <= 400; seed++) {
            oddCalls(new Random(seed));
        }
        room();
        System.out.println(wrong == 0 ? "the face is as due" : wrong + " faults of the face");
        if (wrong != 0) {
            System.exit(1);
        }
    }

    private static void face() {
        TreeSet<String> found = new TreeSet<>();
        TreeSet<String> hidden = new TreeSet<>();
        for (Method method : SheSays.class.getDeclaredMethods()) {
            if (Modifier.isPrivate(method.getModifiers()) || method.isSynthetic()) {
                hidden.add(method.getName());
                continue;
            }
            List<String> types = new ArrayList<>();
            for (Class<?> type : method.getParameterTypes()) {
                types.add(type.getName());
            }
            found.add(method.getReturnType().getName() + " " + method.getName() + "(" + String.join(",", types) + ")");
            holds(method + " is public", Modifier.isPublic(method.getModifiers()));
            boolean mayThrow = method.getName().equals("speech");
            holds(method + " throws as told", method.getExceptionTypes().length == (mayThrow ? 1 : 0));
        }
        holds("the methods of the face: " + found, found.equals(new TreeSet<>(Arrays.asList(FACE))));
        for (String one : FACE) {
            String name = one.substring(one.indexOf(' ') + 1, one.indexOf('('));
            holds("no private method is named " + name, !hidden.contains(name));
            for (Class<?> inside : SheSays.class.getDeclaredClasses()) {
                for (Method method : inside.getDeclaredMethods()) {
                    holds(method + " bears no name of the face", !method.getName().equals(name));
                }
            }
        }
        List<String> constants = new ArrayList<>();
        for (Field field : SheSays.class.getDeclaredFields()) {
            if (!Modifier.isPrivate(field.getModifiers())) {
                constants.add(field.toString());
            } else if (Modifier.isStatic(field.getModifiers())) {
                holds(field + " is final", Modifier.isFinal(field.getModifiers()));
            }
        }
        holds("the constants: " + constants, constants.toString().equals(
            "[public static final int SheSays.NONE, public static final int SheSays.HIDDEN]"));
        holds("the class is public and final", SheSays.class.getModifiers() == (Modifier.PUBLIC | Modifier.FINAL));
        holds("one public constructor", SheSays.class.getDeclaredConstructors().length == 1
            && SheSays.class.getConstructors().length == 1);
        holds("at most twelve classes", SheSays.class.getDeclaredClasses().length <= 11);
        for (Class<?> inside : SheSays.class.getDeclaredClasses()) {
            holds(inside + " is static", Modifier.isStatic(inside.getModifiers()));
            int fields = 0;
            for (Field field : inside.getDeclaredFields()) {
                fields += Modifier.isStatic(field.getModifiers()) ? 0 : 1;
            }
            holds(inside + " has at most twenty fields", fields <= 20);
        }
    }

    private static void file() throws IOException {
        String text = Files.readString(Path.of("src/main/java/SheSays.java"));
        String bare = text.replaceAll("(?s)/\\*.*?\\*/", "").replaceAll("//[^\\n]*", "").replaceAll("\"[^\"\\n]*\"", "\"\"");
        String[] forbidden = {"->", "::", "\\btry\\b", "\\bcatch\\b", "\\bfinally\\b", "\\bassert\\b", "\\bsynchronized\\b",
            "\\bvar\\b", "@", "Exact\\b", "\\bObject\\b", "\\bfloat\\b", "\\bdouble\\b", "\\bpackage\\b", "System\\.(?!arraycopy)",
            "\\bhashCode\\b", "\\btoString\\b", "\\bequals\\b", "\\bRandom\\b", "\\bThread\\b"};
        for (String one : forbidden) {
            Matcher matcher = Pattern.compile(one).matcher(bare);
            holds("the file has no " + one, !matcher.find());
        }
        List<String> imports = new ArrayList<>();
        Matcher matcher = Pattern.compile("import ([^;]*);").matcher(bare);
        while (matcher.find()) {
            imports.add(matcher.group(1));
        }
        holds("the imports", imports.equals(List.of("java.util.Arrays", "java.util.NoSuchElementException")));
        matcher = Pattern.compile("boolean\\[\\] (\\w+)").matcher(bare);
        while (matcher.find()) {
            holds("Arrays works over numbers alone", !bare.matches("(?s).*Arrays\\.\\w+\\(" + matcher.group(1) + "\\b.*"));
        }
        matcher = Pattern.compile("throw new (\\w+)").matcher(bare);
        while (matcher.find()) {
            holds("throws alone what is told", matcher.group(1).equals("NoSuchElementException"));
        }
        holds("signs 10 and 32 to 126 alone", text.chars().allMatch(c -> c == 10 || c >= 32 && c < 127));
        int start = 0;
        int number = 0;
        for (String line : text.split("\n")) {
            number++;
            start = line.matches(" {4}( {4})?[^ ].*\\) (throws \\w+ )?\\{") ? number : start;
            if (line.equals("    }") || line.equals("        }")) {
                holds("the method that ends in line " + number + " is short", number - start <= 60);
            }
            holds("line " + number + " is at most 120 long", line.length() <= 120);
        }
    }

    private static int odd(Random random) {
        int[] all = {-1, 0, 1, 2, 3, 5, 6, 7, 8, 9, 10, 23, 24, 25, 31, 32, 33, 50, 100, 160, 161, 199, 200, 201, 255,
            1 << 23, 1 << 24, (1 << 24) - 1, 1000000000, Integer.MAX_VALUE, Integer.MIN_VALUE, -1000000};
        return random.nextInt(8) == 0 ? random.nextInt() : all[random.nextInt(random.nextBoolean() ? 9 : all.length)];
    }

    private static void tell(SheSays x, String text) {
        x.end(0);
        for (int i = 0; i < text.length(); i++) {
            x.feed(text.charAt(i), 0, 0, 0, 0);
        }
    }

    /** Each call answers whatever the arguments, and throws nothing but what the document names. */
    private static void oddCalls(Random random) {
        SheSays x = new SheSays();
        String[] texts = {"Ax,Bx,Ax,Bx,Ax,By,Ax,Bx", "Ax,Ax", "Hz99,Hz99,Hz,Hz;1-2", "y:[a-s]/[l-l]+g*c/m", "y:100", "y:90;y:5",
            "Aa,Ba,Aa,Ba,Aa,Ba,Aa,Ba,Aa,Ba,Aa,Ba,Aa,Ba,Aa,Ba,Aa,Ba,Aa,Ba,Aa,Ba,Aa,Ba"};
        for (int i = 0; i < 2; i++) {
            if (random.nextInt(4) != 0) {
                tell(x, texts[random.nextInt(texts.length)]);
                x.text(random.nextInt(2));
            }
            x.set(random.nextInt(2), 0, random.nextInt(4));
            x.law(0);
        }
        for (int i = 0; i < 300; i++) {
            int which = random.nextInt(FACE.length);
            try {
                call(x, which, odd(random), odd(random), odd(random), random);
            } catch (NoSuchElementException e) {
                holds("speech alone throws, not " + FACE[which], FACE[which].startsWith("int speech"));
            } catch (RuntimeException e) {
                holds(FACE[which] + " threw " + e, false);
            }
        }
    }

    private static long call(SheSays x, int which, int a, int b, int c, Random random) {
        switch (which) {
            case 0: return x.feed(a, b, c, random.nextInt(), random.nextInt());
            case 1: return x.end(a) ? 1 : 0;
            case 2: return x.fault(a);
            case 3: return x.text(a);
            case 4: return x.speech(a, b);
            case 5: return x.law(a) ? 1 : 0;
            case 6: return x.set(a, b, c) ? 1 : 0;
            case 7: return x.mark(a, random.nextBoolean()) ? 1 : 0;
            case 8: return x.leap(a);
            case 9: return x.evening(a, b);
            case 10: return x.ends(a, b);
            case 11: return x.night(random.nextLong());
            case 12: return x.latest(a);
            case 13: return x.learn(a);
            case 14: return x.loop(a);
            case 15: return x.hole(a);
            case 16: return x.stops();
            case 17: return x.from(a);
            case 18: return x.rows(a);
            case 19: return x.chance(a);
            case 20: return x.mean(a, b);
            case 21: return x.could(a);
            case 22: return x.fewest(a, b, c);
            case 23: return x.understudy(a, b);
            case 24: return x.worst(a);
            case 25: return x.silence(a);
            case 26: return x.spare(a, b);
            case 27: return x.players(a, b);
            case 28: return x.shortest(a, b);
            case 29: return x.longest(a, b);
            case 30: return x.visits(a, b);
            case 31: return x.trial(a, b);
            case 32: return x.doubtful(a);
            case 33: return x.reword(a);
            case 34: return x.image();
            case 35: return x.back();
            default: return x.count(a);
        }
    }

    /** All rows are made with the object: calls make none, so that a run stays far below what the room holds. */
    private static void room() {
        com.sun.management.ThreadMXBean bean = (com.sun.management.ThreadMXBean) ManagementFactory.getThreadMXBean();
        long id = Thread.currentThread().getId();
        makeAndUse(2, bean, id);
        long[] made = makeAndUse(510, bean, id);
        holds("an object is small, not " + made[0] + " bytes", made[0] < 60000);
        holds("calls make nothing, not " + made[1] + " bytes", made[1] < 60000);
    }

    private static long[] makeAndUse(int calls, com.sun.management.ThreadMXBean bean, long id) {
        long start = bean.getThreadAllocatedBytes(id);
        SheSays x = new SheSays();
        long end = bean.getThreadAllocatedBytes(id);
        tell(x, "Aa,Ba,Aa,Ba,Aa,Ba,Aa,Ba,Aa,Ba,Aa,Ba,Aa,Ba,Aa,Ba,Aa,Ba,Aa,Ba,Aa,Ba,Aa,Ba");
        x.text(0);
        tell(x, "y:40-m;y:!!!!!!a=1?[[[[[[1]]]]]]");
        x.text(1);
        x.law(0);
        x.set(0, 0, 3);
        x.set(1, 0, 2);
        for (int i = 0; i < 10; i++) {
            x.could(i * 2);
        }
        long before = bean.getThreadAllocatedBytes(id);
        long sum = 0;
        for (int i = 0; i < calls; i++) {
            switch (i % 12) {
                case 0: sum += x.fewest(i % 24 == 0 ? 900000000 : 330000000, 200, 1); break;
                case 1: sum += x.longest(4, 0); break;
                case 2: sum += x.shortest(4, 1); break;
                case 3: sum += x.trial(50, 1); break;
                case 4: sum += x.understudy(200, 1); break;
                case 5: sum += x.worst(200); break;
                case 6: sum += x.players(1 + i % 24, -1); break;
                case 7: sum += x.visits(i % 24, 200); break;
                case 8: sum += x.rows(6); break;
                case 9: sum += x.night(i); break;
                case 10: sum += x.evening(i * 32749 & 0xffffff, -1); break;
                default: sum += x.law(i % 2 - 1) ? x.fault(0) : 0; break;
            }
        }
        long after = bean.getThreadAllocatedBytes(id);
        holds("something was answered", sum != 0 || calls < 12);
        return new long[] {end - start, after - before};
    }
}
