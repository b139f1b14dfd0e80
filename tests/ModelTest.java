import java.math.BigInteger;
import java.util.ArrayList;
import java.util.Arrays;
import java.util.HashMap;
import java.util.LinkedHashSet;
import java.util.List;
import java.util.Map;
import java.util.NoSuchElementException;
import java.util.Random;
import java.util.TreeMap;
import java.util.regex.Matcher;
import java.util.regex.Pattern;

/**
 * Long runs of calls by chance (with fixed seeds), each answer held against a slow model that was written from the
 * document alone, in other ways than the class: texts by a regular expression and by an Earley recogniser, all else
 * by trying everything.
 */
public final class ModelTest {
    private static final int NONE = -1;
    private static final int HIDDEN = -1000000;
    private static int wrong;
    private static long calls;
    private static final int[] asked = new int[39];
    private static List<String> log = new ArrayList<>();

    public static void main(String[] args) {
        for (int seed = 1; seed <= 260 && wrong < 20; seed++) {
            new Run(seed).play();
        }
        for (int seed = 1; seed <= 6000 && wrong < 20; seed++) {
            tryTexts(new Random(seed));
        }
        for (int promise = 2; promise <= 38; promise++) {
            if (asked[promise] < 200) {
                wrong++;
                System.out.println("promise " + promise + " was asked only " + asked[promise] + " times");
            }
        }
        System.out.println(wrong == 0 ? calls + " answers are as the model's" : wrong + " answers are not as the model's");
        if (wrong != 0) {
            System.exit(1);
        }
    }

    private static void due(int promise, String call, long got, long want) {
        calls++;
        asked[promise]++;
        log.add(call + " -> " + want);
        if (got != want) {
            wrong++;
            System.out.println(call + " answered " + got + ", due is " + want);
            for (String line : log) {
                if (line.startsWith("run ") || line.startsWith("text") || line.startsWith("tell")
                        || line.startsWith("set") || line.startsWith("law") || line.startsWith("mark")) {
                    System.out.println("    " + line);
                }
            }
        }
    }

    static int[] numbers(String part) {
        int[] five = new int[5];
        for (int i = 0; i < part.length(); i++) {
            five[i / 4] |= (part.charAt(i) & 255) << 24 - i % 4 * 8;
        }
        return five;
    }

    private static void tell(SheSays x, String text) {
        for (int i = 0; i < text.length(); i += 20) {
            int[] f = numbers(text.substring(i, Math.min(i + 20, text.length())));
            x.feed(f[0], f[1], f[2], f[3], f[4]);
        }
    }

    /** Texts that are nearly right, for their FAULT alone. */
    private static void tryTexts(Random random) {
        Texts texts = new Texts(random);
        SheSays x = new SheSays();
        String text = random.nextBoolean() ? texts.book() : texts.law();
        for (int i = 0; i < 6; i++) {
            x.end(0);
            tell(x, text);
            log = new ArrayList<>();
            log.add("tell " + text);
            due(4, "fault(0) of <" + text + ">", x.fault(0), Fault.ofBook(text));
            due(4, "fault(1) of <" + text + ">", x.fault(1), Fault.ofLaw(text));
            text = texts.spoil(text);
        }
    }

    /** Makes texts by chance. */
    private static final class Texts {
        private static final String SIGNS = "ABHIaz,;-0123459 y:?!([])|&=<>+*/slgcm\u00e9@";
        private final Random random;

        Texts(Random random) {
            this.random = random;
        }

        String book() {
            int actors = 1 + random.nextInt(random.nextBoolean() ? 3 : 8);
            int words = 1 + random.nextInt(random.nextBoolean() ? 2 : 4);
            int n = random.nextInt(3) == 0 ? 24 : 2 + random.nextInt(23);
            StringBuilder text = new StringBuilder();
            for (int i = 0; i < n; i++) {
                text.append(i == 0 ? "" : ",").append((char) ('A' + random.nextInt(actors)));
                text.append((char) ('a' + (25 * random.nextInt(words)) / 4));
                if (random.nextInt(4) == 0) {
                    text.append(1 + random.nextInt(99));
                }
            }
            if (random.nextInt(3) == 0) {
                text.append(cuts(n));
            }
            return blanked(text.toString());
        }

        private String cuts(int n) {
            StringBuilder text = new StringBuilder();
            int from = random.nextInt(Math.max(1, n / 2));
            int left = n - 2;
            while (from < n && left > 0 && text.length() < 24) {
                int to = Math.min(n - 1, from + random.nextInt(Math.min(left, 3)));
                text.append(text.length() == 0 ? ";" : ",").append(from).append('-').append(to);
                left -= to - from + 1;
                from = to + 1 + random.nextInt(4);
            }
            return text.toString();
        }

        /** At times a blank or two, but not within numbers. */
        private String blanked(String text) {
            if (random.nextInt(3) != 0) {
                return text;
            }
            StringBuilder result = new StringBuilder();
            for (int i = 0; i <= text.length(); i++) {
                boolean within = i > 0 && i < text.length() && Character.isDigit(text.charAt(i))
                        && Character.isDigit(text.charAt(i - 1));
                if (!within && random.nextInt(6) == 0) {
                    result.append(random.nextBoolean() ? " " : "  ");
                }
                if (i < text.length()) {
                    result.append(text.charAt(i));
                }
            }
            return result.length() > 160 ? text : result.toString();
        }

        String law() {
            for (;;) {
                StringBuilder text = new StringBuilder();
                int clauses = 1 + random.nextInt(4);
                for (int i = 0; i < clauses; i++) {
                    text.append(i == 0 ? "" : ";").append("y:");
                    if (random.nextInt(3) != 0) {
                        text.append(condition(0)).append('?');
                    }
                    text.append(random.nextInt(3) == 0 ? "" + random.nextInt(101) : sum(0));
                }
                if (text.length() <= 160) {
                    return blanked(text.toString());
                }
            }
        }

        private String condition(int depth) {
            StringBuilder text = new StringBuilder(unit(depth));
            while (random.nextInt(3) == 0) {
                text.append(random.nextBoolean() ? '|' : '&').append(unit(depth));
            }
            return text.toString();
        }

        private String unit(int depth) {
            if (depth < 6 && random.nextInt(4) == 0) {
                return random.nextBoolean() ? "!" + unit(depth + 1) : "(" + condition(depth + 1) + ")";
            }
            return sum(depth) + "=<>".charAt(random.nextInt(3)) + sum(depth);
        }

        private String sum(int depth) {
            StringBuilder text = new StringBuilder(atom(depth));
            while (random.nextInt(5) < 2) {
                text.append("+-*/".charAt(random.nextInt(4))).append(atom(depth));
            }
            return text.toString();
        }

        private String atom(int depth) {
            if (depth < 6 && random.nextInt(6) == 0) {
                return "[" + sum(depth + 1) + "]";
            }
            if (random.nextInt(3) == 0) {
                int most = new int[] {3, 10, 100, 1000, 10000}[random.nextInt(5)];
                return (random.nextInt(8) == 0 ? "0" : "") + random.nextInt(most == 10000 ? 1000 : most);
            }
            return "" + "aslgcm".charAt(random.nextInt(6));
        }

        String spoil(String text) {
            StringBuilder result = new StringBuilder(text);
            int at = random.nextInt(text.length() + 1);
            char sign = SIGNS.charAt(random.nextInt(SIGNS.length()));
            switch (random.nextInt(5)) {
                case 0:
                    result.setLength(at);
                    break;
                case 1:
                    if (at < text.length()) {
                        result.deleteCharAt(at);
                    }
                    break;
                case 2:
                    if (at < text.length()) {
                        result.setCharAt(at, sign);
                    }
                    break;
                case 3:
                    int to = Math.min(text.length(), at + 1 + random.nextInt(6));
                    result.insert(at, text.substring(at, to));
                    break;
                default:
                    result.insert(at, sign);
                    break;
            }
            return result.length() > 160 ? result.substring(0, 160) : result.toString();
        }
    }

    /** FAULTS, in ways of their own. */
    private static final class Fault {
        private static final Pattern BOOK;
        private static final Pattern NUMBER = Pattern.compile("[0-9]+");

        static {
            String speech = " *[A-H] *[a-z] *([0-9]{1,2} *)?";
            String cut = " *[0-9]{1,2} *- *[0-9]{1,2} *";
            BOOK = Pattern.compile(speech + "(," + speech + "){1,23}(;" + cut + "(," + cut + ")*)?");
        }

        static int ofBook(String text) {
            int structural = NONE;
            for (int i = 1; i <= text.length() && structural == NONE; i++) {
                Matcher matcher = BOOK.matcher(text.substring(0, i));
                if (!matcher.matches() && !matcher.hitEnd()) {
                    structural = i - 1;
                }
            }
            if (structural == NONE && !BOOK.matcher(text).matches()) {
                structural = text.length();
            }
            int number = wrongNumber(text, structural == NONE ? text.length() : structural);
            return number != NONE ? number : structural;
        }

        /** The last digit of the first number out of bounds that stands whole ahead of a place. */
        private static int wrongNumber(String text, int end) {
            int semicolon = text.indexOf(';');
            int n = text.substring(0, semicolon < 0 ? text.length() : semicolon).split(",", -1).length;
            List<Integer> cuts = new ArrayList<>();
            int gone = 0;
            Matcher matcher = NUMBER.matcher(text);
            while (matcher.find() && matcher.start() < end && matcher.end() <= end) {
                if (matcher.end() - matcher.start() > 2) {
                    return NONE;
                }
                int value = Integer.parseInt(matcher.group());
                boolean right;
                if (semicolon < 0 || matcher.start() < semicolon) {
                    right = value >= 1;
                } else if (cuts.size() % 2 == 0) {
                    right = value < n && (cuts.isEmpty() || value > cuts.get(cuts.size() - 1));
                    cuts.add(value);
                } else {
                    int first = cuts.get(cuts.size() - 1);
                    gone += value - first + 1;
                    right = value < n && value >= first && n - gone >= 2;
                    cuts.add(value);
                }
                if (!right) {
                    return matcher.end() - 1;
                }
            }
            return NONE;
        }

        private static final Map<String, List<String[]>> RULES = new HashMap<>();

        private static void rule(String left, String... right) {
            RULES.computeIfAbsent(left, k -> new ArrayList<>()).add(right);
        }

        static {
            rule("LAW", "CLAUSE");
            rule("LAW", "LAW", ";", "CLAUSE");
            rule("CLAUSE", "y", ":", "SUM0");
            rule("CLAUSE", "y", ":", "CONDITION0", "?", "SUM0");
            rule("NUMBER", "digit");
            rule("NUMBER", "digit", "glued");
            rule("NUMBER", "digit", "glued", "glued");
            rule("NUMBER", "digit", "glued", "glued", "glued");
            for (int d = 0; d <= 6; d++) {
                rule("CONDITION" + d, "TRUTH" + d);
                rule("CONDITION" + d, "CONDITION" + d, "|", "TRUTH" + d);
                rule("TRUTH" + d, "UNIT" + d);
                rule("TRUTH" + d, "TRUTH" + d, "&", "UNIT" + d);
                rule("UNIT" + d, "SUM" + d, "compares", "SUM" + d);
                rule("SUM" + d, "TERM" + d);
                rule("SUM" + d, "SUM" + d, "adds", "TERM" + d);
                rule("TERM" + d, "ATOM" + d);
                rule("TERM" + d, "TERM" + d, "times", "ATOM" + d);
                rule("ATOM" + d, "NUMBER");
                rule("ATOM" + d, "letter");
                if (d < 6) {
                    rule("UNIT" + d, "!", "UNIT" + (d + 1));
                    rule("UNIT" + d, "(", "CONDITION" + (d + 1), ")");
                    rule("ATOM" + d, "[", "SUM" + (d + 1), "]");
                }
            }
        }

        private record Item(String left, List<String> right, int dot, int from) {
            String next() {
                return dot < right.size() ? right.get(dot) : null;
            }

            Item moved() {
                return new Item(left, right, dot + 1, from);
            }
        }

        private static boolean fits(String kind, char sign, boolean glued) {
            switch (kind) {
                case "digit": return Character.isDigit(sign) && !glued;
                case "glued": return Character.isDigit(sign) && glued;
                case "letter": return "aslgcm".indexOf(sign) >= 0;
                case "compares": return "=<>".indexOf(sign) >= 0;
                case "adds": return "+-".indexOf(sign) >= 0;
                case "times": return "*/".indexOf(sign) >= 0;
                default: return kind.length() == 1 && kind.charAt(0) == sign;
            }
        }

        static int ofLaw(String text) {
            List<LinkedHashSet<Item>> sets = new ArrayList<>();
            LinkedHashSet<Item> set = new LinkedHashSet<>();
            for (String[] right : RULES.get("LAW")) {
                set.add(new Item("LAW", List.of(right), 0, 0));
            }
            sets.add(set);
            close(sets);
            for (int i = 0; i < text.length(); i++) {
                char sign = text.charAt(i);
                if (sign == ' ') {
                    continue;
                }
                boolean glued = i > 0 && Character.isDigit(text.charAt(i - 1));
                LinkedHashSet<Item> next = new LinkedHashSet<>();
                for (Item item : sets.get(sets.size() - 1)) {
                    if (item.next() != null && fits(item.next(), sign, glued)) {
                        next.add(item.moved());
                    }
                }
                if (next.isEmpty()) {
                    return i;
                }
                sets.add(next);
                close(sets);
            }
            for (Item item : sets.get(sets.size() - 1)) {
                if (item.left().equals("LAW") && item.next() == null && item.from() == 0) {
                    return NONE;
                }
            }
            return text.length();
        }

        private static void close(List<LinkedHashSet<Item>> sets) {
            int here = sets.size() - 1;
            LinkedHashSet<Item> set = sets.get(here);
            List<Item> work = new ArrayList<>(set);
            for (int i = 0; i < work.size(); i++) {
                Item item = work.get(i);
                List<Item> more = new ArrayList<>();
                if (item.next() == null) {
                    for (Item waiting : new ArrayList<>(sets.get(item.from()))) {
                        if (item.left().equals(waiting.next())) {
                            more.add(waiting.moved());
                        }
                    }
                } else if (RULES.containsKey(item.next())) {
                    for (String[] right : RULES.get(item.next())) {
                        more.add(new Item(item.next(), List.of(right), 0, here));
                    }
                }
                for (Item one : more) {
                    if (set.add(one)) {
                        work.add(one);
                    }
                }
            }
        }
    }

    /** WORTH of a LAW without a FAULT, by splitting its text. */
    private static final class Worth {
        private final Map<Character, Integer> letters;

        Worth(Map<Character, Integer> letters) {
            this.letters = letters;
        }

        int of(String law) {
            for (String clause : law.replace(" ", "").split(";")) {
                String body = clause.substring(2);
                int mark = body.indexOf('?');
                if (mark < 0 || holds(body.substring(0, mark))) {
                    return sum(body.substring(mark + 1));
                }
            }
            return 0;
        }

        /** The last one of some signs that stands in no brackets. */
        private static int split(String text, String signs) {
            int depth = 0;
            for (int i = text.length() - 1; i >= 0; i--) {
                char sign = text.charAt(i);
                depth += ")]".indexOf(sign) >= 0 ? 1 : "([".indexOf(sign) >= 0 ? -1 : 0;
                if (depth == 0 && signs.indexOf(sign) >= 0) {
                    return i;
                }
            }
            return -1;
        }

        private boolean holds(String text) {
            int at = split(text, "|");
            if (at >= 0) {
                return holds(text.substring(0, at)) | holds(text.substring(at + 1));
            }
            at = split(text, "&");
            if (at >= 0) {
                return holds(text.substring(0, at)) & holds(text.substring(at + 1));
            }
            if (text.charAt(0) == '!') {
                return !holds(text.substring(1));
            }
            if (text.charAt(0) == '(') {
                return holds(text.substring(1, text.length() - 1));
            }
            at = split(text, "=<>");
            int compared = Integer.compare(sum(text.substring(0, at)), sum(text.substring(at + 1)));
            return compared == "<=>".indexOf(text.charAt(at)) - 1;
        }

        private int sum(String text) {
            int at = split(text, "+-");
            if (at < 0) {
                return term(text);
            }
            long left = sum(text.substring(0, at));
            long right = term(text.substring(at + 1));
            return held(text.charAt(at) == '+' ? left + right : left - right);
        }

        private int term(String text) {
            int at = split(text, "*/");
            if (at < 0) {
                return atom(text);
            }
            long left = term(text.substring(0, at));
            long right = atom(text.substring(at + 1));
            return held(text.charAt(at) == '*' ? left * right : right == 0 ? 0 : left / right);
        }

        private int atom(String text) {
            if (text.charAt(0) == '[') {
                return sum(text.substring(1, text.length() - 1));
            }
            return Character.isDigit(text.charAt(0)) ? Integer.parseInt(text) : letters.get(text.charAt(0));
        }

        private static int held(long value) {
            return (int) Math.max(-1000000, Math.min(1000000, value));
        }
    }

    /** What an EVENING or a NIGHT came to. */
    private static final class Way {
        final List<Integer> row = new ArrayList<>();
        int ends = 2;
        int stopped = NONE;
        int lost;
        int saved;
        int seconds;
        int leaps;
    }

    /** The book, its marks and all else that is kept, and everything that is asked of them. */
    private static final class Model {
        String tape = "";
        final List<String> laws = new ArrayList<>();
        int held = NONE;
        final int[] kind = new int[8];
        final int[] take = {50, 50, 50, 50, 50, 50, 50, 50};
        int bookSize;
        int n;
        int[] actor = {};
        int[] word = {};
        int[] length = {};
        int[] place = {};
        boolean[] marked = {};
        int[] lost = {};
        int nights;
        Way latest;
        List<Integer> could = new ArrayList<>();
        boolean[] imageMarked;
        int[] imageLost;

        int text(int sort) {
            if (sort == 0 && Fault.ofBook(tape) == NONE) {
                putBook(tape.replace(" ", ""));
                tape = "";
                return n;
            }
            if (sort == 1 && laws.size() < 4 && Fault.ofLaw(tape) == NONE) {
                laws.add(tape);
                tape = "";
                return laws.size() - 1;
            }
            return NONE;
        }

        private void putBook(String text) {
            String[] halves = text.split(";");
            String[] speeches = halves[0].split(",");
            boolean[] cut = new boolean[speeches.length];
            if (halves.length > 1) {
                for (String one : halves[1].split(",")) {
                    String[] ends = one.split("-");
                    for (int i = Integer.parseInt(ends[0]); i <= Integer.parseInt(ends[1]); i++) {
                        cut[i] = true;
                    }
                }
            }
            bookSize = speeches.length;
            List<Integer> kept = new ArrayList<>();
            for (int i = 0; i < bookSize; i++) {
                if (!cut[i]) {
                    kept.add(i);
                }
            }
            n = kept.size();
            actor = new int[n];
            word = new int[n];
            length = new int[n];
            place = new int[n];
            for (int i = 0; i < n; i++) {
                String one = speeches[kept.get(i)];
                place[i] = kept.get(i);
                actor[i] = one.charAt(0) - 'A';
                word[i] = one.charAt(1) - 'a';
                length[i] = one.length() > 2 ? Integer.parseInt(one.substring(2)) : 5;
            }
            marked = new boolean[n];
            lost = new int[n];
            nights = 0;
            latest = null;
            could = new ArrayList<>();
            imageMarked = null;
            imageLost = null;
        }

        int cue(int s) {
            return s == 0 ? NONE : word[s - 1];
        }

        List<Integer> like(int s) {
            List<Integer> found = new ArrayList<>();
            for (int i = 1; i < n; i++) {
                if (s > 0 && i != s && actor[i] == actor[s] && cue(i) == cue(s)) {
                    found.add(i);
                }
            }
            return found;
        }

        int gap(int s) {
            int between = 0;
            for (int i = s - 1; i >= 0 && actor[i] != actor[s]; i--) {
                between++;
            }
            return between;
        }

        int forgets(int s, boolean isMarked) {
            if (held == NONE) {
                return 0;
            }
            Map<Character, Integer> letters = new HashMap<>();
            letters.put('a', actor[s]);
            letters.put('s', s);
            letters.put('l', length[s]);
            letters.put('g', gap(s));
            letters.put('c', like(s).size());
            letters.put('m', isMarked ? 1 : 0);
            return Math.max(0, Math.min(100, new Worth(letters).of(laws.get(held))));
        }

        int[] forgetsAll(boolean[] marks) {
            int[] all = new int[n];
            for (int i = 0; i < n; i++) {
                all[i] = forgets(i, marks[i]);
            }
            return all;
        }

        int leap(int s) {
            int best = NONE;
            for (int one : like(s)) {
                switch (kind[actor[s]]) {
                    case 1:
                        best = one > s && best == NONE ? one : best;
                        break;
                    case 2:
                        best = one < s ? one : best;
                        break;
                    case 3:
                        best = best == NONE || Math.abs(one - s) < Math.abs(best - s) ? one : best;
                        break;
                    default:
                        break;
                }
            }
            return best;
        }

        Way evening(int losses) {
            Way way = new Way();
            LinkedHashSet<Integer> met = new LinkedHashSet<>();
            int at = 0;
            while (way.row.size() < 200) {
                boolean isLost = met.add(at) && (losses & 1 << at) != 0;
                int says = isLost ? leap(at) : at;
                if (says == NONE) {
                    way.ends = 1;
                    way.stopped = at;
                    return way;
                }
                way.row.add(says);
                way.seconds += length[says];
                at = says + 1;
                if (at == n) {
                    way.ends = 0;
                    return way;
                }
            }
            return way;
        }

        Way night(long seed, int[] lostCounts) {
            Way way = new Way();
            BigInteger[] x = {BigInteger.valueOf(seed)};
            int[] forgets = forgetsAll(marked);
            int at = 0;
            while (way.row.size() < 200) {
                int says = at;
                if (draw(x) < forgets[at]) {
                    way.lost++;
                    lostCounts[at]++;
                    if (marked[at] && draw(x) < take[actor[at]]) {
                        way.saved++;
                        way.seconds += 3;
                    } else {
                        says = leap(at);
                        way.leaps += says == NONE ? 0 : 1;
                    }
                }
                if (says == NONE) {
                    way.ends = 1;
                    return way;
                }
                way.row.add(says);
                way.seconds += length[says];
                at = says + 1;
                if (at == n) {
                    way.ends = 0;
                    return way;
                }
            }
            return way;
        }

        private static int draw(BigInteger[] x) {
            BigInteger round = BigInteger.ONE.shiftLeft(64);
            x[0] = x[0].multiply(new BigInteger("6364136223846793005")).add(new BigInteger("1442695040888963407")).mod(round);
            return x[0].shiftRight(33).mod(BigInteger.valueOf(100)).intValue();
        }

        int marks() {
            int found = 0;
            for (boolean one : marked) {
                found += one ? 1 : 0;
            }
            return found;
        }

        int learn(int k) {
            List<Integer> order = new ArrayList<>();
            for (int i = 0; i < n; i++) {
                if (lost[i] > 0) {
                    order.add(i);
                }
            }
            order.sort((a, b) -> lost[a] != lost[b] ? lost[b] - lost[a] : a - b);
            Arrays.fill(marked, false);
            for (int i = 0; i < Math.min(k, order.size()); i++) {
                marked[order.get(i)] = true;
            }
            return marks();
        }

        /** The least of keys over LOST ones with a test, as {key, LOST one}. */
        int[] least(boolean ahead) {
            int[] best = {NONE, NONE};
            for (int i = n - 1; i >= 0; i--) {
                int to = leap(i);
                if (to == NONE || (to < i) != ahead) {
                    continue;
                }
                int many = Math.abs(to - i);
                if (best[0] == NONE || (ahead ? many <= best[0] : many >= best[0])) {
                    best = new int[] {many, i};
                }
            }
            return best;
        }

        int from(int target) {
            int found = 0;
            for (int i = 0; i < n; i++) {
                if (leap(i) == target) {
                    found += 1 << i;
                }
            }
            return found;
        }

        int rows(int k) {
            Map<Integer, BigInteger> known = new HashMap<>();
            return rows(0, 0, k, known).min(BigInteger.valueOf(1000000000)).intValue();
        }

        private BigInteger rows(int at, int said, int k, Map<Integer, BigInteger> known) {
            if (at == n) {
                return k == 0 ? BigInteger.ONE : BigInteger.ZERO;
            }
            if (said == 200) {
                return BigInteger.ZERO;
            }
            int key = (at * 201 + said) * 7 + k;
            BigInteger sum = known.get(key);
            if (sum == null) {
                sum = rows(at + 1, said + 1, k, known);
                int to = leap(at);
                if (k > 0 && to != NONE) {
                    sum = sum.add(rows(to + 1, said + 1, k - 1, known));
                }
                known.put(key, sum);
            }
            return sum;
        }

        /** CHANCE at 0, then MEAN of each SPEECH, then VISITS of each. */
        long[] flow(int[] forgets, boolean[] marks, int most) {
            long[] result = new long[1 + 2 * n];
            TreeMap<Integer, Long> come = new TreeMap<>();
            come.put(0, 1000000000L);
            for (int said = 0; said < most; said++) {
                TreeMap<Integer, Long> then = new TreeMap<>();
                for (Map.Entry<Integer, Long> one : come.entrySet()) {
                    int s = one.getKey();
                    if (s == n) {
                        continue;
                    }
                    long lostParts = one.getValue() * forgets[s] / 100;
                    long savedParts = marks[s] ? lostParts * take[actor[s]] / 100 : 0;
                    long leaps = lostParts - savedParts;
                    long says = one.getValue() - leaps;
                    then.merge(s + 1, says, Long::sum);
                    result[1 + n + s] += says;
                    int to = leap(s);
                    if (to == NONE) {
                        result[1 + s] += leaps;
                    } else {
                        then.merge(to + 1, leaps, Long::sum);
                        result[1 + n + to] += leaps;
                    }
                }
                result[0] += then.getOrDefault(n, 0L);
                come = then;
            }
            return result;
        }

        long chance(boolean[] marks, int most) {
            return flow(forgetsAll(marks), marks, most)[0];
        }

        int fewest(int parts, int most) {
            int best = NONE;
            for (int choice = 0; choice < 1 << could.size(); choice++) {
                boolean[] marks = marked.clone();
                int bits = 0;
                for (int i = 0; i < could.size(); i++) {
                    marks[could.get(i)] = (choice >> i & 1) == 1;
                    bits |= (choice >> i & 1) << could.get(i);
                }
                boolean fewer = best == NONE || Integer.bitCount(bits) < Integer.bitCount(best)
                        || Integer.bitCount(bits) == Integer.bitCount(best) && bits < best;
                if (fewer && chance(marks, most) >= parts) {
                    best = bits;
                }
            }
            return best;
        }

        long[] understudy(int most) {
            long[] best = {NONE, NONE};
            for (int a = 7; a >= 0; a--) {
                int[] forgets = forgetsAll(marked);
                boolean speaks = false;
                for (int i = 0; i < n; i++) {
                    if (actor[i] == a) {
                        forgets[i] = 0;
                        speaks = true;
                    }
                }
                long chance = flow(forgets, marked, most)[0];
                if (speaks && chance >= best[1]) {
                    best = new long[] {a, chance};
                }
            }
            return best;
        }

        int worst(int most) {
            int best = NONE;
            long bestChance = NONE;
            for (int i = n - 1; i >= 0; i--) {
                if (!marked[i]) {
                    boolean[] marks = marked.clone();
                    marks[i] = true;
                    long chance = chance(marks, most);
                    if (chance >= bestChance) {
                        best = i;
                        bestChance = chance;
                    }
                }
            }
            return best;
        }

        boolean speaks(int a) {
            for (int one : actor) {
                if (one == a) {
                    return true;
                }
            }
            return false;
        }

        int silence(int a) {
            int most = NONE;
            for (int i = 0; i < n; i++) {
                int sum = 0;
                for (int j = i + 1; actor[i] == a && j < n; j++) {
                    if (actor[j] == a) {
                        most = Math.max(most, sum);
                        break;
                    }
                    sum += length[j];
                }
            }
            return most;
        }

        int[] spare(int k) {
            int[] best = {NONE, NONE};
            for (int i = n - 1; i >= 1; i--) {
                if (i + k <= n - 1) {
                    int changes = word[i + k - 1] == word[i - 1] ? 0 : 1;
                    if (best[0] == NONE || changes <= best[1]) {
                        best = new int[] {i, changes};
                    }
                }
            }
            return best;
        }

        boolean share(int a, int b, int near) {
            for (int i = 0; i < n; i++) {
                for (int j = 0; j < n; j++) {
                    if (actor[i] == a && actor[j] == b && Math.abs(i - j) < near) {
                        return false;
                    }
                }
            }
            return a != b && speaks(a) && speaks(b);
        }

        /** Tries all ways to give each ACTOR, from this one on, to a player. */
        int players(int a, int[] player, int used, int near) {
            if (a == 8) {
                return used;
            }
            if (!speaks(a)) {
                return players(a + 1, player, used, near);
            }
            int best = 8;
            for (int p = 0; p <= used; p++) {
                boolean fits = true;
                for (int b = 0; b < a; b++) {
                    fits &= !speaks(b) || player[b] != p || share(a, b, near);
                }
                if (fits) {
                    player[a] = p;
                    best = Math.min(best, players(a + 1, player, Math.max(used, p + 1), near));
                }
            }
            return best;
        }

        int[] extreme(int k, boolean longest) {
            int[] best = {NONE, NONE};
            for (int losses = 0; losses < 1 << n; losses++) {
                if (Integer.bitCount(losses) <= k) {
                    Way way = evening(losses);
                    int many = way.row.size();
                    if (way.ends == 0 && (best[0] == NONE || (longest ? many > best[0] : many < best[0]))) {
                        best = new int[] {many, losses};
                    }
                }
            }
            return best;
        }

        /** How many WORDS, and the first. */
        int[] reword() {
            int many = 0;
            int first = NONE;
            for (int i = n - 1; i > 0; i--) {
                List<Integer> like = like(i);
                if (!like.isEmpty() && like.get(0) < i) {
                    many++;
                    first = i - 1;
                }
            }
            return new int[] {many, first};
        }
    }

    /** One object and its model, asked the same. */
    private static final class Run {
        private final Random random;
        private final Texts texts;
        private final SheSays x = new SheSays();
        private final Model m = new Model();
        private final int seed;
        private int made;

        Run(int seed) {
            this.seed = seed;
            random = new Random(seed * 7919L);
            texts = new Texts(random);
        }

        void play() {
            log = new ArrayList<>();
            log.add("run " + seed);
            if (random.nextInt(4) != 0) {
                tellAndTake(texts.book(), 0);
            }
            for (int i = 0; i < 8; i++) {
                set(i, 0, random.nextInt(4));
            }
            if (random.nextInt(4) != 0) {
                tellAndTake(texts.law(), 1);
                law(0);
            }
            while (made < 490 && wrong < 20) {
                one();
            }
        }

        private int oddOr(int usual) {
            return random.nextInt(12) != 0 ? usual
                    : new int[] {-1, -2, 0, 24, 25, 1 << 24, Integer.MAX_VALUE, Integer.MIN_VALUE, 201}[random.nextInt(9)];
        }

        private int aSpeech() {
            return oddOr(random.nextInt(Math.max(1, m.n + 1)));
        }

        private int aMost() {
            return oddOr(random.nextInt(3) == 0 ? 1 + random.nextInt(200) : 1 + random.nextInt(Math.max(1, m.n + 5)));
        }

        private void feed(String part) {
            int[] f = numbers(part);
            int size = 0;
            for (int i = 0; i < part.length(); i++) {
                size += part.charAt(i) == 0 ? 0 : 1;
            }
            boolean fits = m.tape.length() + size <= 160;
            if (fits) {
                m.tape += part.replace("\0", "");
            }
            due(2, "feed <" + part + ">", x.feed(f[0], f[1], f[2], f[3], f[4]), fits ? m.tape.length() : NONE);
            made++;
        }

        private void end(int n) {
            boolean is = n >= 0 && n <= m.tape.length();
            if (is) {
                m.tape = m.tape.substring(0, n);
            }
            due(3, "end(" + n + ")", x.end(n) ? 1 : 0, is ? 1 : 0);
            made++;
        }

        private void tellAndTake(String text, int sort) {
            end(0);
            for (int i = 0; i < text.length(); i += 20) {
                feed(text.substring(i, Math.min(i + 20, text.length())));
            }
            fault(sort);
            take(sort);
        }

        private void fault(int sort) {
            int want = sort == 0 ? Fault.ofBook(m.tape) : sort == 1 ? Fault.ofLaw(m.tape) : -2;
            due(4, "fault(" + sort + ")", x.fault(sort), want);
            made++;
        }

        private void take(int sort) {
            String tape = m.tape;
            int want = m.text(sort);
            due(5, "text(" + sort + ") of <" + tape + ">", x.text(sort), want);
            made++;
        }

        private void law(int law) {
            boolean is = law >= NONE && law < m.laws.size();
            if (is) {
                m.held = law;
            }
            due(7, "law(" + law + ")", x.law(law) ? 1 : 0, is ? 1 : 0);
            made++;
        }

        private void set(int actor, int what, int v) {
            boolean is = actor >= 0 && actor < 8 && v >= 0 && (what == 0 && v <= 3 || what == 1 && v <= 100);
            if (is) {
                (what == 0 ? m.kind : m.take)[actor] = v;
            }
            due(8, "set(" + actor + ", " + what + ", " + v + ")", x.set(actor, what, v) ? 1 : 0, is ? 1 : 0);
            made++;
        }

        private boolean has(int s) {
            return s >= 0 && s < m.n;
        }

        private boolean isMost(int most) {
            return most >= 1 && most <= 200;
        }

        /** One call, of what is likely to be asked. */
        private void one() {
            int which = 2 + random.nextInt(37);
            if (which <= 5 || which == 23 && random.nextBoolean()) {
                textCalls();
                return;
            }
            made++;
            if (which <= 15 || which >= 36) {
                bookCalls(which);
            } else if (which <= 26) {
                oddsCalls(which);
            } else {
                rowCalls(which);
            }
        }

        private void textCalls() {
            switch (random.nextInt(24)) {
                case 0:
                    tellAndTake(texts.book(), 0);
                    break;
                case 1:
                    tellAndTake(texts.law(), 1);
                    break;
                case 2:
                    tellAndTake(texts.spoil(random.nextBoolean() ? texts.book() : texts.law()), random.nextInt(2));
                    break;
                case 3:
                    feed(random.nextBoolean() ? "A\0x,\0By" : "\0\0\0\0\0\0\0\0\0\0\0\0\0\0\0\0\0\0\0\0");
                    break;
                case 4:
                    feed("aaaaaaaaaaaaaaaaaaaa".substring(random.nextInt(20)));
                    break;
                case 5:
                    for (int i = 0; i < 9; i++) {
                        feed("Ay,Bz,Cx,De,Aa,Bb1,C".substring(random.nextInt(3)));
                    }
                    break;
                case 6: case 7: case 8:
                    end(oddOr(random.nextInt(m.tape.length() + 2)));
                    break;
                case 9: case 10:
                    take(oddOr(random.nextInt(3)));
                    break;
                case 11: case 12: case 13:
                    law(random.nextInt(6) - 1);
                    break;
                default:
                    fault(oddOr(random.nextInt(3)));
                    break;
            }
        }

        private void bookCalls(int which) {
            int s = aSpeech();
            int what = oddOr(random.nextInt(6));
            switch (which) {
                case 6: speech(s, oddOr(random.nextInt(11))); break;
                case 7: law(oddOr(random.nextInt(m.laws.size() + 2) - 1)); break;
                case 8: set(oddOr(random.nextInt(9)), oddOr(random.nextInt(3)), oddOr(random.nextInt(random.nextBoolean() ? 5 : 102))); break;
                case 9: mark(s, random.nextInt(3) != 0); break;
                case 10: due(10, "leap(" + s + ")", x.leap(s), has(s) ? m.leap(s) : HIDDEN); break;
                case 11: case 12: evening(which); break;
                case 13: night(); break;
                case 14: latest(what); break;
                case 15: learn(); break;
                case 36: image(); break;
                case 37: back(); break;
                default: count(oddOr(random.nextInt(9))); break;
            }
        }

        private void speech(int s, int what) {
            long want = Long.MIN_VALUE;
            if (has(s) && what >= 0 && what <= 9) {
                int[] all = {m.actor[s], m.word[s], m.length[s], m.cue(s), m.gap(s), m.like(s).size(),
                    m.marked[s] ? 1 : 0, m.forgets(s, m.marked[s]), m.place[s], m.lost[s]};
                want = all[what];
            }
            long got;
            try {
                got = x.speech(s, what);
            } catch (NoSuchElementException e) {
                got = Long.MIN_VALUE;
            }
            due(6, "speech(" + s + ", " + what + ")", got, want);
        }

        private void mark(int s, boolean is) {
            boolean want = has(s) && m.marked[s] != is;
            if (want) {
                m.marked[s] = is;
            }
            due(9, "mark(" + s + ", " + is + ")", x.mark(s, is) ? 1 : 0, want ? 1 : 0);
        }

        private void evening(int which) {
            int losses = random.nextInt(1 << Math.min(24, m.n + (random.nextInt(8) == 0 ? 1 : 0)));
            losses = oddOr(random.nextBoolean() ? losses : losses & random.nextInt() & random.nextInt());
            boolean is = m.n > 0 && losses >= 0 && losses < 1 << m.n;
            Way way = is ? m.evening(losses) : null;
            if (which == 11) {
                int i = oddOr(random.nextInt(m.n + 3) - 1);
                long want = !is || i < NONE ? NONE : i == NONE ? way.row.size() : i < way.row.size() ? way.row.get(i) : NONE;
                due(11, "evening(" + losses + ", " + i + ")", x.evening(losses, i), want);
            } else {
                int what = oddOr(random.nextInt(4));
                long want = !is || what < 0 || what > 2 ? HIDDEN : what == 0 ? way.ends : what == 1 ? way.stopped : way.seconds;
                due(12, "ends(" + losses + ", " + what + ")", x.ends(losses, what), want);
            }
        }

        private void night() {
            long by = random.nextBoolean() ? random.nextLong() : random.nextInt(50);
            long want = NONE;
            if (m.n > 0) {
                m.latest = m.night(by, m.lost);
                m.nights++;
                want = m.latest.ends;
            }
            due(13, "night(" + by + ")", x.night(by), want);
        }

        private void latest(int what) {
            long want = NONE;
            if (m.latest != null && what >= 0 && what <= 4) {
                Way w = m.latest;
                want = new int[] {w.row.size(), w.lost, w.saved, w.seconds, w.leaps}[what];
            }
            due(14, "latest(" + what + ")", x.latest(what), want);
        }

        private void learn() {
            int k = oddOr(random.nextInt(random.nextBoolean() ? 4 : 26));
            due(15, "learn(" + k + ")", x.learn(k), m.n == 0 || k < 0 || k > 24 ? NONE : m.learn(k));
        }

        private void image() {
            if (m.n > 0) {
                m.imageMarked = m.marked.clone();
                m.imageLost = m.lost.clone();
            }
            due(36, "image()", x.image(), m.n > 0 ? m.marks() : NONE);
        }

        private void back() {
            if (m.imageMarked != null) {
                m.marked = m.imageMarked.clone();
                m.lost = m.imageLost.clone();
            }
            due(37, "back()", x.back(), m.imageMarked != null ? m.marks() : NONE);
        }

        private void count(int what) {
            int[] all = {m.bookSize, m.n, m.laws.size(), m.tape.length(), m.held, m.nights, m.marks(), m.could.size()};
            due(38, "count(" + what + ")", x.count(what), what >= 0 && what < 8 ? all[what] : HIDDEN);
        }

        private void oddsCalls(int which) {
            int s = aSpeech();
            int most = aMost();
            int what = oddOr(random.nextInt(2));
            boolean asks = m.n > 0 && what >= 0 && what <= 1;
            boolean asksMost = m.n > 0 && isMost(most);
            switch (which) {
                case 16: due(16, "loop(" + what + ")", x.loop(what), asks ? m.least(true)[what] : NONE); break;
                case 17: due(17, "hole(" + what + ")", x.hole(what), asks ? m.least(false)[what] : NONE); break;
                case 18: due(18, "stops()", x.stops(), m.n > 0 ? m.from(NONE) : NONE); break;
                case 19: due(19, "from(" + s + ")", x.from(s), has(s) ? m.from(s) : NONE); break;
                case 20:
                    int k = oddOr(random.nextInt(8));
                    due(20, "rows(" + k + ")", x.rows(k), m.n > 0 && k >= 0 && k <= 6 ? m.rows(k) : NONE);
                    break;
                case 21: due(21, "chance(" + most + ")", x.chance(most), asksMost ? m.chance(m.marked, most) : NONE); break;
                case 22:
                    due(22, "mean(" + s + ", " + most + ")", x.mean(s, most),
                        has(s) && isMost(most) ? m.flow(m.forgetsAll(m.marked), m.marked, most)[1 + s] : NONE);
                    break;
                case 23: could(s); break;
                case 24: fewest(most, what); break;
                case 25:
                    due(25, "understudy(" + most + ", " + what + ")", x.understudy(most, what),
                        asks && isMost(most) ? m.understudy(most)[what] : NONE);
                    break;
                default: due(26, "worst(" + most + ")", x.worst(most), asksMost ? m.worst(most) : NONE); break;
            }
        }

        private void could(int s) {
            int want = NONE;
            if (has(s) && !m.could.contains(s) && m.could.size() < 10) {
                m.could.add(s);
                want = m.could.size();
            }
            due(23, "could(" + s + ")", x.could(s), want);
        }

        private void fewest(int most, int what) {
            int parts = m.n > 0 && random.nextInt(6) != 0 && isMost(most)
                ? (int) Math.min(1000000000, m.chance(m.marked, most) + random.nextInt(3) * random.nextInt(200000000) - 1 + random.nextInt(2))
                : oddOr(new int[] {0, 1000000000, 1000000001, -1, 5}[random.nextInt(5)]);
            int want = NONE;
            if (m.n > 0 && isMost(most) && parts >= 0 && parts <= 1000000000 && what >= 0 && what <= 1) {
                want = m.fewest(parts, Math.min(most, 200));
                want = want == NONE || what == 1 ? want : Integer.bitCount(want);
            }
            due(24, "fewest(" + parts + ", " + most + ", " + what + ")", x.fewest(parts, most, what), want);
        }

        private void rowCalls(int which) {
            int a = oddOr(random.nextInt(9));
            boolean isActor = m.n > 0 && a >= 0 && a < 8;
            int what = oddOr(random.nextInt(2));
            boolean asks = m.n > 0 && what >= 0 && what <= 1;
            switch (which) {
                case 27: due(27, "silence(" + a + ")", x.silence(a), isActor ? m.silence(a) : NONE); break;
                case 28:
                    int k = oddOr(random.nextInt(10));
                    due(28, "spare(" + k + ", " + what + ")", x.spare(k, what), asks && k >= 1 && k <= 8 ? m.spare(k)[what] : NONE);
                    break;
                case 29: players(random.nextBoolean() ? NONE : a); break;
                case 30: case 31: extreme(which == 31, what, asks); break;
                case 32:
                    int s = aSpeech();
                    int most = aMost();
                    due(32, "visits(" + s + ", " + most + ")", x.visits(s, most),
                        has(s) && isMost(most) ? m.flow(m.forgetsAll(m.marked), m.marked, most)[1 + m.n + s] : NONE);
                    break;
                case 33: trial(); break;
                case 34: doubtful(a, isActor); break;
                default: due(35, "reword(" + what + ")", x.reword(what), asks ? m.reword()[what] : HIDDEN); break;
            }
        }

        private void players(int a) {
            int near = oddOr(random.nextInt(random.nextBoolean() ? 6 : 26));
            int want = NONE;
            if (m.n > 0 && near >= 1 && near <= 24) {
                if (a == NONE) {
                    want = m.players(0, new int[8], 0, near);
                } else if (a >= 0 && a < 8 && m.speaks(a)) {
                    want = 0;
                    for (int b = 0; b < 8; b++) {
                        want |= m.share(a, b, near) ? 1 << b : 0;
                    }
                }
            }
            due(29, "players(" + near + ", " + a + ")", x.players(near, a), want);
        }

        private void extreme(boolean longest, int what, boolean asks) {
            // the model tries every set of bits, so long plays are asked it less often
            if (m.n > 16 && random.nextInt(m.n > 20 ? 60 : 6) != 0) {
                return;
            }
            int k = oddOr(random.nextInt(6));
            int want = asks && k >= 0 && k <= 4 ? m.extreme(k, longest)[what] : NONE;
            due(longest ? 31 : 30, (longest ? "longest(" : "shortest(") + k + ", " + what + ")",
                longest ? x.longest(k, what) : x.shortest(k, what), want);
        }

        private void trial() {
            int nights = oddOr(random.nextInt(random.nextBoolean() ? 5 : 53));
            int what = oddOr(random.nextInt(4));
            int want = NONE;
            if (m.n > 0 && nights >= 1 && nights <= 50 && what >= 0 && what <= 2) {
                want = 0;
                for (int by = 0; by < nights; by++) {
                    Way way = m.night(by, new int[m.n]);
                    want += what == 0 ? (way.ends == 0 ? 1 : 0) : what == 1 ? way.seconds : way.lost;
                }
            }
            due(33, "trial(" + nights + ", " + what + ")", x.trial(nights, what), want);
        }

        private void doubtful(int a, boolean isActor) {
            int want = isActor ? 0 : NONE;
            for (int i = 0; isActor && i < m.n; i++) {
                want += m.actor[i] == a && !m.like(i).isEmpty() ? 1 : 0;
            }
            due(34, "doubtful(" + a + ")", x.doubtful(a), want);
        }
    }
}
