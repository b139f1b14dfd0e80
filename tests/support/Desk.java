import java.util.NoSuchElementException;

/** What the tests of the bounds share: texts for the tape, answers that are due, refusals that change nothing. */
final class Desk {
    /** A call of an object; a boolean answer counts 1 or 0. */
    interface Call {
        long on(SheSays x);
    }

    interface Maker {
        SheSays make();
    }

    static final int MIN = Integer.MIN_VALUE;
    static final int MAX = Integer.MAX_VALUE;
    /** What a call answers that throws NoSuchElementException: no call of the face answers this itself. */
    static final long THROWN = Long.MIN_VALUE;

    private static String sentence = "";
    private static int askedOfSentence = 1;
    private static int sentences;
    private static int asked;
    private static int wrong;

    private Desk() {
    }

    /** The sentence of the document that the calls from here on are about. */
    static void sentence(String words) {
        holds("the sentence ahead has a test", askedOfSentence > 0);
        sentence = words;
        sentences++;
        askedOfSentence = 0;
    }

    static void due(String call, long got, long want) {
        asked++;
        askedOfSentence++;
        if (got != want) {
            wrong++;
            System.out.println(sentence + ": " + call + " answered " + got + ", due is " + want);
        }
    }

    static void holds(String what, boolean is) {
        due(what, bit(is), 1);
    }

    static void end() {
        sentence("the last one");
        System.out.println(wrong == 0 ? asked + " answers to " + (sentences - 1) + " sentences are as due"
            : wrong + " answers are not as due");
        if (wrong != 0) {
            System.exit(1);
        }
    }

    static long bit(boolean is) {
        return is ? 1 : 0;
    }

    static int feed(SheSays x, String text) {
        int answer = x.count(3);
        for (int i = 0; i < text.length(); i += 20) {
            int[] five = new int[5];
            for (int j = i; j < text.length() && j < i + 20; j++) {
                five[(j - i) / 4] |= (text.charAt(j) & 255) << 24 - (j - i) % 4 * 8;
            }
            answer = x.feed(five[0], five[1], five[2], five[3], five[4]);
        }
        return answer;
    }

    static int take(SheSays x, int sort, String text) {
        x.end(0);
        feed(x, text);
        return x.text(sort);
    }

    static int fault(int sort, String text) {
        SheSays x = new SheSays();
        feed(x, text);
        return x.fault(sort);
    }

    /** With this BOOK, and with this LAW, if there is one, which holds. */
    static SheSays of(String book, String law) {
        SheSays x = new SheSays();
        take(x, 0, book);
        if (!law.isEmpty()) {
            x.law(take(x, 1, law));
        }
        return x;
    }

    static String times(int n, String text) {
        return text.repeat(n);
    }

    /** n SPEECHES, each with the ACTOR and the WORD of its place in these, which are gone through again and again. */
    static String book(int n, String... speeches) {
        StringBuilder text = new StringBuilder();
        for (int i = 0; i < n; i++) {
            text.append(i == 0 ? "" : ",").append(speeches[i % speeches.length]);
        }
        return text.toString();
    }

    static long speech(SheSays x, int speech, int what) {
        try {
            return x.speech(speech, what);
        } catch (NoSuchElementException e) {
            return THROWN;
        }
    }

    /** What is refused answers as told and changes nothing. */
    static void refused(Maker maker, String call, long want, Call made) {
        keeps(maker, call, want, made);
    }

    /** The call answers as told, and what the object tells of itself is the same as without it. */
    static void keeps(Maker maker, String call, long want, Call made) {
        SheSays x = maker.make();
        due(call, made.on(x), want);
        changesNothing(maker, call, x);
    }

    /** The call answers something and changes nothing. */
    static void asks(Maker maker, String call, Call made) {
        SheSays x = maker.make();
        made.on(x);
        changesNothing(maker, call, x);
    }

    private static void changesNothing(Maker maker, String call, SheSays x) {
        String want = everything(maker.make());
        String got = everything(x);
        holds(call + " changes nothing; without it: " + want + " with it: " + got, got.equals(want));
    }

    /** All that an object can tell of itself. It is spent then: the later ones of these calls change it. */
    static String everything(SheSays x) {
        StringBuilder all = new StringBuilder();
        for (int what = 0; what <= 7; what++) {
            all.append(x.count(what)).append(' ');
        }
        int n = x.count(1);
        for (int s = 0; s < n; s++) {
            for (int what = 0; what <= 9; what++) {
                all.append(x.speech(s, what)).append(' ');
            }
            all.append(x.leap(s)).append(' ').append(x.visits(s, 200)).append(" | ");
        }
        for (int what = 0; what <= 4; what++) {
            all.append(x.latest(what)).append(' ');
        }
        all.append(" FAULTS ").append(x.fault(0)).append(' ').append(x.fault(1));
        all.append(" BACK ").append(x.back()).append(' ');
        for (int s = 0; s < n; s++) {
            all.append(x.speech(s, 6)).append(' ').append(x.speech(s, 9)).append(' ');
        }
        all.append(" LAWS ");
        for (int law = 0; x.law(law); law++) {
            for (int s = 0; s < n; s++) {
                all.append(x.speech(s, 7)).append(' ');
            }
        }
        all.append(" COULD ");
        for (int s = 0; s < n; s++) {
            all.append(x.could(s)).append(' ');
        }
        tape(x, all);
        actors(x, all);
        return all.toString();
    }

    private static void tape(SheSays x, StringBuilder all) {
        all.append(" TAPE ").append(x.text(0)).append(' ');
        for (int s = 0; s < x.count(1); s++) {
            all.append(x.speech(s, 0)).append(' ').append(x.speech(s, 1)).append(' ').append(x.speech(s, 2)).append(' ');
        }
    }

    /** KIND by where the ACTOR's second and third SPEECH LEAP, TAKE by how many parts say its LOST first one. */
    private static void actors(SheSays x, StringBuilder all) {
        all.append(" KINDS ").append(take(x, 0, book(24, "Ax", "Bx", "Cx", "Dx", "Ex", "Fx", "Gx", "Hx"))).append(' ');
        for (int s = 1; s < 24; s++) {
            all.append(x.leap(s)).append(' ');
        }
        x.law(x.count(2) < 4 ? take(x, 1, "y:100") : 2);
        all.append(" TAKE ");
        for (char actor = 'A'; actor <= 'H'; actor++) {
            take(x, 0, actor + "x," + actor + "y");
            x.mark(0, true);
            all.append(x.visits(0, 1)).append(' ');
        }
    }
}
