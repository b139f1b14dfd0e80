/**
 * "What is refused answers as told and changes nothing": each call, refused in each way, on objects that have much to
 * lose; and the calls that only ask, which change nothing either.
 */
public final class RefusalTest {
    private static final int[] NO_MOST = {0, -1, 201, Desk.MAX, Desk.MIN};
    private static final int[] NO_WHAT = {-1, 2, Desk.MAX, Desk.MIN};
    /** Of the PLAY of full(). */
    private static final int[] NO_SPEECH = {-1, 6, 7, 8, 24, 32, Desk.MAX, Desk.MIN};

    public static void main(String[] args) {
        theObjectsTellWhatTheyHave();
        texts();
        speeches();
        lawsAndActors();
        marks();
        evenings();
        nights();
        counted();
        odds();
        actors();
        searches();
        withoutABook();
        nothingToChange();
        asking();
        Desk.end();
    }

    private static SheSays empty() {
        return new SheSays();
    }

    /** LAWS, KINDS, TAKE and a TAPE, but no BOOK. */
    private static SheSays noBook() {
        SheSays x = new SheSays();
        laws(x, 3);
        x.law(1);
        actors(x);
        Desk.feed(x, "Bz7,Cy");
        return x;
    }

    private static void laws(SheSays x, int n) {
        String[] all = {"y:10", "y:m*20+25", "y:100", "y:s*7+l"};
        for (int law = 0; law < n; law++) {
            Desk.take(x, 1, all[law]);
        }
    }

    private static void actors(SheSays x) {
        int[] kinds = {2, 3, 1, 0, 1, 0, 2, 3};
        int[] takes = {40, 100, 7, 50, 0, 99, 1, 60};
        for (int actor = 0; actor < 8; actor++) {
            x.set(actor, 0, kinds[actor]);
            x.set(actor, 1, takes[actor]);
        }
    }

    /** The PLAY: 0 Ax9, 1 Bx, 2 Ax, 3 Bx, 4 Ax, 5 By. MARKS and LOST are not as they are in the IMAGE. */
    private static SheSays full() {
        SheSays x = new SheSays();
        laws(x, 4);
        x.law(1);
        actors(x);
        Desk.take(x, 0, "Hq,Ax9,Bx,Ax,Bx,Ax,By,Ax;0-0,7-7");
        x.mark(1, true);
        x.mark(4, true);
        for (int seed = 0; seed < 6; seed++) {
            x.night(seed);
        }
        x.image();
        x.mark(1, false);
        x.mark(2, true);
        x.mark(0, true);
        for (int seed = 6; seed < 11; seed++) {
            x.night(seed);
        }
        x.could(0);
        x.could(3);
        x.could(5);
        Desk.feed(x, "Bz7,Cy");
        return x;
    }

    /** Another BOOK has gone ahead, of which there were NIGHTS and an IMAGE; this one has none. */
    private static SheSays fresh() {
        SheSays x = full();
        Desk.take(x, 0, "Ax,Bx,Ax,Bx");
        Desk.feed(x, "Bz7,Cy");
        return x;
    }

    private static SheSays allMarked() {
        SheSays x = full();
        for (int s = 0; s < 6; s++) {
            x.mark(s, true);
        }
        return x;
    }

    private static SheSays tenCould() {
        SheSays x = new SheSays();
        laws(x, 4);
        Desk.take(x, 0, Desk.book(12, "Ax", "By"));
        for (int s = 1; s <= 10; s++) {
            x.could(s);
        }
        return x;
    }

    private static SheSays fullTape() {
        SheSays x = full();
        x.end(0);
        Desk.feed(x, "Bz7,Cy" + Desk.times(154, " "));
        return x;
    }

    /** A TAPE that is neither a BOOK nor a LAW. */
    private static SheSays badTape() {
        SheSays x = full();
        x.end(0);
        Desk.feed(x, "Bz7,C");
        return x;
    }

    private static SheSays lawTape(int laws) {
        SheSays x = new SheSays();
        laws(x, laws);
        Desk.take(x, 0, "Ax,Bx");
        Desk.feed(x, "y:33");
        return x;
    }

    /** What tells that nothing was changed must itself see what is changed. */
    private static void theObjectsTellWhatTheyHave() {
        Desk.sentence("what is changed is seen");
        String want = Desk.everything(full());
        Desk.Call[] changes = {
            x -> x.feed(1, 0, 0, 0, 0), x -> Desk.bit(x.end(5)), x -> x.text(0), x -> Desk.bit(x.law(0)),
            x -> Desk.bit(x.law(-1)), x -> Desk.bit(x.law(3)), x -> Desk.bit(x.mark(0, false)),
            x -> Desk.bit(x.mark(5, true)), x -> x.night(0), x -> x.night(11), x -> x.learn(0), x -> x.learn(6),
            x -> x.could(1), x -> x.image(), x -> x.back(), x -> Desk.feed(x, " "),
        };
        for (int i = 0; i < changes.length; i++) {
            SheSays x = full();
            changes[i].on(x);
            Desk.holds("change " + i, !Desk.everything(x).equals(want));
        }
        for (int actor = 0; actor < 8; actor++) {
            int one = actor;
            for (int v = 0; v <= 3; v++) {
                int kind = v;
                SheSays x = full();
                x.set(one, 0, kind);
                int[] kinds = {2, 3, 1, 0, 1, 0, 2, 3};
                Desk.holds("KIND " + kind + " of " + one, Desk.everything(x).equals(want) == (kinds[one] == kind));
            }
            SheSays x = full();
            x.set(one, 1, 77);
            Desk.holds("TAKE of " + one, !Desk.everything(x).equals(want));
        }
    }

    private static void refused(String call, long want, Desk.Call made) {
        Desk.refused(RefusalTest::full, call, want, made);
    }

    private static void texts() {
        Desk.sentence("2 NONE: more than 160, and it changes nothing");
        Desk.refused(RefusalTest::fullTape, "feed of one at 160", -1, x -> x.feed(0, 0, 'A', 0, 0));
        Desk.refused(RefusalTest::fullTape, "feed of 20 at 160", -1, x -> x.feed(-1, -1, -1, -1, -1));
        Desk.refused(RefusalTest::fullTape, "feed of none at 160", 160, x -> x.feed(0, 0, 0, 0, 0));
        Desk.refused(() -> {
            SheSays x = fullTape();
            x.end(150);
            return x;
        }, "feed of 11 at 150", -1, x -> x.feed(0x41414141, 0x41414141, 0x41414100, 0, 0));
        Desk.sentence("3 False: n, and it changes nothing");
        for (int n : new int[] {7, 8, 160, 161, Desk.MAX, -1, -6, Desk.MIN}) {
            refused("end(" + n + ")", 0, x -> Desk.bit(x.end(n)));
        }
        Desk.refused(RefusalTest::empty, "end(1)", 0, x -> Desk.bit(x.end(1)));
        Desk.refused(RefusalTest::fullTape, "end(161)", 0, x -> Desk.bit(x.end(161)));
        Desk.sentence("4 -2: no such sort, and it changes nothing");
        for (int sort : NO_WHAT) {
            refused("fault(" + sort + ")", -2, x -> x.fault(sort));
        }
        Desk.sentence("5 NONE: a FAULT, no such sort, and it changes nothing");
        for (int sort : new int[] {-1, 0, 1, 2, Desk.MAX, Desk.MIN}) {
            Desk.refused(RefusalTest::badTape, "text(" + sort + ")", -1, x -> x.text(sort));
            Desk.refused(RefusalTest::empty, "text(" + sort + ")", -1, x -> x.text(sort));
        }
        for (int sort : new int[] {-1, 1, 2, Desk.MAX, Desk.MIN}) {
            refused("text(" + sort + ") of a BOOK", -1, x -> x.text(sort));
            Desk.refused(RefusalTest::noBook, "text(" + sort + ") of a BOOK", -1, x -> x.text(sort));
        }
        Desk.sentence("5 NONE: there are four LAWS, and it changes nothing");
        Desk.refused(() -> lawTape(4), "text(1) as a fifth LAW", -1, x -> x.text(1));
        Desk.refused(() -> lawTape(4), "text(0) of a LAW", -1, x -> x.text(0));
        Desk.refused(() -> lawTape(3), "text(2) of a LAW", -1, x -> x.text(2));
        // a fifth one leaves the four as they are
        SheSays x = lawTape(4);
        x.text(1);
        int[] want = {10, 25, 100, 12};
        for (int law = 0; law < 4; law++) {
            x.law(law);
            Desk.due("FORGETS by LAW " + law, x.speech(1, 7), want[law]);
        }
    }

    private static void speeches() {
        Desk.sentence("6 NoSuchElementException: no such ones, and it changes nothing");
        for (int s : NO_SPEECH) {
            refused("speech(" + s + ", 0)", Desk.THROWN, x -> Desk.speech(x, s, 0));
            refused("speech(" + s + ", 9)", Desk.THROWN, x -> Desk.speech(x, s, 9));
        }
        for (int what : new int[] {-1, 10, Desk.MAX, Desk.MIN}) {
            refused("speech(0, " + what + ")", Desk.THROWN, x -> Desk.speech(x, 0, what));
        }
        Desk.refused(RefusalTest::noBook, "speech(0, 0)", Desk.THROWN, x -> Desk.speech(x, 0, 0));
        Desk.sentence("10 HIDDEN: no such one; 19 NONE: no such SPEECH; and they change nothing");
        for (int s : NO_SPEECH) {
            refused("leap(" + s + ")", -1000000, x -> x.leap(s));
            refused("from(" + s + ")", -1, x -> x.from(s));
        }
    }

    private static void lawsAndActors() {
        Desk.sentence("7 False: no such one, and it changes nothing");
        for (int law : new int[] {4, 5, Desk.MAX, -2, Desk.MIN}) {
            refused("law(" + law + ")", 0, x -> Desk.bit(x.law(law)));
        }
        Desk.refused(RefusalTest::noBook, "law(3) of three", 0, x -> Desk.bit(x.law(3)));
        Desk.refused(RefusalTest::empty, "law(0) of none", 0, x -> Desk.bit(x.law(0)));
        Desk.sentence("8 False: no such ones, out of bounds, and it changes nothing");
        for (int actor : new int[] {-1, 8, 9, 32, Desk.MAX, Desk.MIN}) {
            refused("set(" + actor + ", 0, 1)", 0, x -> Desk.bit(x.set(actor, 0, 1)));
            refused("set(" + actor + ", 1, 1)", 0, x -> Desk.bit(x.set(actor, 1, 1)));
        }
        for (int actor = 0; actor < 8; actor++) {
            int one = actor;
            for (int v : new int[] {-1, 4, Desk.MAX, Desk.MIN}) {
                refused("set(" + one + ", 0, " + v + ")", 0, x -> Desk.bit(x.set(one, 0, v)));
            }
            for (int v : new int[] {-1, 101, Desk.MAX, Desk.MIN}) {
                refused("set(" + one + ", 1, " + v + ")", 0, x -> Desk.bit(x.set(one, 1, v)));
            }
            for (int what : NO_WHAT) {
                refused("set(" + one + ", " + what + ", 1)", 0, x -> Desk.bit(x.set(one, what, 1)));
            }
        }
    }

    private static void marks() {
        Desk.sentence("9 False: no such SPEECH, it is so, and it changes nothing");
        for (int s : NO_SPEECH) {
            refused("mark(" + s + ", true)", 0, x -> Desk.bit(x.mark(s, true)));
            refused("mark(" + s + ", false)", 0, x -> Desk.bit(x.mark(s, false)));
        }
        for (int s : new int[] {0, 2, 4}) {
            refused("mark(" + s + ", true)", 0, x -> Desk.bit(x.mark(s, true)));
        }
        for (int s : new int[] {1, 3, 5}) {
            refused("mark(" + s + ", false)", 0, x -> Desk.bit(x.mark(s, false)));
        }
        Desk.sentence("23 NONE: no such SPEECH, it could, there are ten, and it changes nothing");
        for (int s : NO_SPEECH) {
            refused("could(" + s + ")", -1, x -> x.could(s));
        }
        for (int s : new int[] {0, 3, 5}) {
            refused("could(" + s + ") again", -1, x -> x.could(s));
        }
        for (int s : new int[] {0, 11, 1, 10, 12}) {
            Desk.refused(RefusalTest::tenCould, "could(" + s + ") of ten", -1, x -> x.could(s));
        }
        Desk.sentence("15 NONE: out of bounds, and it changes nothing");
        for (int k : new int[] {-1, 25, Desk.MAX, Desk.MIN}) {
            refused("learn(" + k + ")", -1, x -> x.learn(k));
        }
        Desk.sentence("37 NONE: no IMAGE of this BOOK, and it changes nothing");
        Desk.refused(RefusalTest::fresh, "back()", -1, SheSays::back);
    }

    private static void evenings() {
        Desk.sentence("11 NONE: no such one, no such LOSSES; 12 HIDDEN: no such ones; and they change nothing");
        for (int losses : new int[] {64, 128, 1 << 24, Desk.MAX, -1, Desk.MIN}) {
            refused("evening(" + losses + ", -1)", -1, x -> x.evening(losses, -1));
            refused("evening(" + losses + ", 0)", -1, x -> x.evening(losses, 0));
            refused("ends(" + losses + ", 0)", -1000000, x -> x.ends(losses, 0));
        }
        for (int i : new int[] {6, 200, Desk.MAX, -2, Desk.MIN}) {
            refused("evening(0, " + i + ")", -1, x -> x.evening(0, i));
        }
        for (int what : new int[] {-1, 3, Desk.MAX, Desk.MIN}) {
            refused("ends(0, " + what + ")", -1000000, x -> x.ends(0, what));
        }
    }

    private static void nights() {
        Desk.sentence("14 NONE: none of this BOOK, no such what, and it changes nothing");
        for (int what : new int[] {-1, 5, Desk.MAX, Desk.MIN}) {
            refused("latest(" + what + ")", -1, x -> x.latest(what));
        }
        for (int what = 0; what <= 4; what++) {
            int one = what;
            Desk.refused(RefusalTest::fresh, "latest(" + one + ")", -1, x -> x.latest(one));
        }
        Desk.sentence("33 NONE: out of bounds, no such what, and it changes nothing");
        for (int n : new int[] {0, -1, 51, Desk.MAX, Desk.MIN}) {
            refused("trial(" + n + ", 0)", -1, x -> x.trial(n, 0));
        }
        for (int what : new int[] {-1, 3, Desk.MAX, Desk.MIN}) {
            refused("trial(50, " + what + ")", -1, x -> x.trial(50, what));
        }
    }

    private static void counted() {
        Desk.sentence("16, 17 NONE: no such what; 20 NONE: out of bounds; 38 HIDDEN for others; and they change nothing");
        for (int what : NO_WHAT) {
            refused("loop(" + what + ")", -1, x -> x.loop(what));
            refused("hole(" + what + ")", -1, x -> x.hole(what));
            refused("reword(" + what + ")", -1000000, x -> x.reword(what));
        }
        for (int k : new int[] {-1, 7, Desk.MAX, Desk.MIN}) {
            refused("rows(" + k + ")", -1, x -> x.rows(k));
        }
        for (int what : new int[] {-1, 8, Desk.MAX, Desk.MIN}) {
            refused("count(" + what + ")", -1000000, x -> x.count(what));
        }
    }

    private static void odds() {
        Desk.sentence("21, 22, 24, 25, 26, 32 NONE: out of bounds, and they change nothing");
        for (int most : NO_MOST) {
            refused("chance(" + most + ")", -1, x -> x.chance(most));
            refused("mean(0, " + most + ")", -1, x -> x.mean(0, most));
            refused("visits(0, " + most + ")", -1, x -> x.visits(0, most));
            refused("fewest(0, " + most + ", 0)", -1, x -> x.fewest(0, most, 0));
            refused("understudy(" + most + ", 0)", -1, x -> x.understudy(most, 0));
            refused("worst(" + most + ")", -1, x -> x.worst(most));
        }
        for (int s : NO_SPEECH) {
            refused("mean(" + s + ", 200)", -1, x -> x.mean(s, 200));
            refused("visits(" + s + ", 200)", -1, x -> x.visits(s, 200));
        }
        for (int parts : new int[] {-1, 1000000001, Desk.MAX, Desk.MIN}) {
            refused("fewest(" + parts + ", 200, 0)", -1, x -> x.fewest(parts, 200, 0));
        }
        for (int what : NO_WHAT) {
            refused("fewest(0, 200, " + what + ")", -1, x -> x.fewest(0, 200, what));
            refused("understudy(200, " + what + ")", -1, x -> x.understudy(200, what));
        }
        Desk.sentence("24 NONE: it can't be; 26 NONE: all are MARKED; and they change nothing");
        refused("fewest(1000000000, 200, 0)", -1, x -> x.fewest(1000000000, 200, 0));
        refused("fewest(1000000000, 200, 1)", -1, x -> x.fewest(1000000000, 200, 1));
        Desk.refused(RefusalTest::allMarked, "worst(200)", -1, x -> x.worst(200));
    }

    private static void actors() {
        Desk.sentence("27, 29, 34 NONE: no such ACTOR, and they change nothing");
        for (int actor : new int[] {-2, 8, Desk.MAX, Desk.MIN}) {
            refused("silence(" + actor + ")", -1, x -> x.silence(actor));
            refused("players(1, " + actor + ")", -1, x -> x.players(1, actor));
            refused("doubtful(" + actor + ")", -1, x -> x.doubtful(actor));
        }
        for (int actor = 2; actor < 8; actor++) {
            int one = actor;
            refused("silence(" + one + ")", -1, x -> x.silence(one));
            refused("players(1, " + one + ")", -1, x -> x.players(1, one));
        }
        for (int near : new int[] {0, -1, 25, Desk.MAX, Desk.MIN}) {
            refused("players(" + near + ", -1)", -1, x -> x.players(near, -1));
            refused("players(" + near + ", 0)", -1, x -> x.players(near, 0));
        }
        Desk.sentence("28 NONE: the PLAY is too short, no such ones, and it changes nothing");
        for (int k : new int[] {0, -1, 5, 8, 9, Desk.MAX, Desk.MIN}) {
            refused("spare(" + k + ", 0)", -1, x -> x.spare(k, 0));
            refused("spare(" + k + ", 1)", -1, x -> x.spare(k, 1));
        }
        for (int what : NO_WHAT) {
            refused("spare(1, " + what + ")", -1, x -> x.spare(1, what));
        }
    }

    private static void searches() {
        Desk.sentence("30, 31 NONE: out of bounds, no such what, and they change nothing");
        for (int k : new int[] {-1, 5, Desk.MAX, Desk.MIN}) {
            refused("shortest(" + k + ", 0)", -1, x -> x.shortest(k, 0));
            refused("longest(" + k + ", 0)", -1, x -> x.longest(k, 0));
        }
        for (int what : NO_WHAT) {
            refused("shortest(4, " + what + ")", -1, x -> x.shortest(4, what));
            refused("longest(4, " + what + ")", -1, x -> x.longest(4, what));
        }
    }

    private static void withoutABook() {
        Desk.sentence("9 .. 37 no BOOK, and they change nothing");
        Object[][] calls = {
            {"mark(0, true)", 0, (Desk.Call) x -> Desk.bit(x.mark(0, true))},
            {"mark(0, false)", 0, (Desk.Call) x -> Desk.bit(x.mark(0, false))},
            {"leap(0)", -1000000, (Desk.Call) x -> x.leap(0)},
            {"evening(0, -1)", -1, (Desk.Call) x -> x.evening(0, -1)},
            {"evening(0, 0)", -1, (Desk.Call) x -> x.evening(0, 0)},
            {"ends(0, 0)", -1000000, (Desk.Call) x -> x.ends(0, 0)},
            {"night(1)", -1, (Desk.Call) x -> x.night(1)},
            {"latest(0)", -1, (Desk.Call) x -> x.latest(0)},
            {"learn(0)", -1, (Desk.Call) x -> x.learn(0)},
            {"loop(0)", -1, (Desk.Call) x -> x.loop(0)},
            {"hole(0)", -1, (Desk.Call) x -> x.hole(0)},
            {"stops()", -1, (Desk.Call) SheSays::stops},
            {"from(0)", -1, (Desk.Call) x -> x.from(0)},
            {"rows(0)", -1, (Desk.Call) x -> x.rows(0)},
            {"chance(1)", -1, (Desk.Call) x -> x.chance(1)},
            {"mean(0, 1)", -1, (Desk.Call) x -> x.mean(0, 1)},
            {"could(0)", -1, (Desk.Call) x -> x.could(0)},
            {"fewest(0, 1, 0)", -1, (Desk.Call) x -> x.fewest(0, 1, 0)},
            {"understudy(1, 1)", -1, (Desk.Call) x -> x.understudy(1, 1)},
            {"worst(1)", -1, (Desk.Call) x -> x.worst(1)},
            {"silence(0)", -1, (Desk.Call) x -> x.silence(0)},
            {"spare(1, 0)", -1, (Desk.Call) x -> x.spare(1, 0)},
            {"players(1, -1)", -1, (Desk.Call) x -> x.players(1, -1)},
            {"players(1, 0)", -1, (Desk.Call) x -> x.players(1, 0)},
            {"shortest(0, 0)", -1, (Desk.Call) x -> x.shortest(0, 0)},
            {"longest(0, 0)", -1, (Desk.Call) x -> x.longest(0, 0)},
            {"visits(0, 1)", -1, (Desk.Call) x -> x.visits(0, 1)},
            {"trial(1, 0)", -1, (Desk.Call) x -> x.trial(1, 0)},
            {"doubtful(0)", -1, (Desk.Call) x -> x.doubtful(0)},
            {"reword(0)", -1000000, (Desk.Call) x -> x.reword(0)},
            {"image()", -1, (Desk.Call) SheSays::image},
            {"back()", -1, (Desk.Call) SheSays::back},
        };
        for (Object[] one : calls) {
            Desk.refused(RefusalTest::noBook, (String) one[0], (int) one[1], (Desk.Call) one[2]);
            Desk.refused(RefusalTest::empty, (String) one[0], (int) one[1], (Desk.Call) one[2]);
        }
    }

    private static void nothingToChange() {
        Desk.sentence("what is so already is no refusal, but of mark and could, and changes nothing");
        Desk.keeps(RefusalTest::empty, "law(-1)", 1, x -> Desk.bit(x.law(-1)));
        Desk.keeps(RefusalTest::full, "law(1) that holds", 1, x -> Desk.bit(x.law(1)));
        Desk.keeps(RefusalTest::full, "set of the same KIND", 1, x -> Desk.bit(x.set(1, 0, 3)));
        Desk.keeps(RefusalTest::full, "set of the same TAKE", 1, x -> Desk.bit(x.set(1, 1, 100)));
        Desk.keeps(RefusalTest::full, "end(6) of 6", 1, x -> Desk.bit(x.end(6)));
        Desk.keeps(RefusalTest::full, "feed of none", 6, x -> x.feed(0, 0, 0, 0, 0));
    }

    private static void asks(String call, Desk.Call made) {
        Desk.asks(RefusalTest::full, call, made);
    }

    private static void asking() {
        Desk.sentence("what only asks changes nothing");
        asks("fault(0)", x -> x.fault(0));
        asks("fault(1)", x -> x.fault(1));
        Desk.asks(RefusalTest::badTape, "fault(0) with a FAULT", x -> x.fault(0));
        Desk.asks(() -> lawTape(3), "fault(1) of a LAW", x -> x.fault(1));
        asks("speech(5, 9)", x -> Desk.speech(x, 5, 9));
        asks("leap(5)", x -> x.leap(5));
        asks("evening(0, -1)", x -> x.evening(0, -1));
        asks("evening(63, 0)", x -> x.evening(63, 0));
        asks("ends(62, 2)", x -> x.ends(62, 2));
        asks("latest(3)", x -> x.latest(3));
        asks("loop(0)", x -> x.loop(0));
        asks("hole(1)", x -> x.hole(1));
        asks("stops()", SheSays::stops);
        asks("from(1)", x -> x.from(1));
        asks("rows(6)", x -> x.rows(6));
        asks("chance(200)", x -> x.chance(200));
        asks("mean(0, 200)", x -> x.mean(0, 200));
        asks("fewest(300000000, 200, 1)", x -> x.fewest(300000000, 200, 1));
        asks("fewest(0, 200, 0)", x -> x.fewest(0, 200, 0));
        asks("understudy(200, 0)", x -> x.understudy(200, 0));
        asks("worst(200)", x -> x.worst(200));
        asks("silence(0)", x -> x.silence(0));
        asks("spare(1, 0)", x -> x.spare(1, 0));
        asks("players(2, -1)", x -> x.players(2, -1));
        asks("shortest(4, 1)", x -> x.shortest(4, 1));
        asks("longest(4, 1)", x -> x.longest(4, 1));
        asks("visits(5, 200)", x -> x.visits(5, 200));
        asks("trial(50, 0)", x -> x.trial(50, 0));
        asks("doubtful(0)", x -> x.doubtful(0));
        asks("reword(1)", x -> x.reword(1));
        asks("count(0)", x -> x.count(0));
        Desk.sentence("36 an IMAGE is kept apart: all else goes on as without it");
        SheSays x = full();
        SheSays y = full();
        x.image();
        x.night(5);
        y.night(5);
        for (int s = 0; s < 6; s++) {
            Desk.due("LOST of " + s, x.speech(s, 9), y.speech(s, 9));
            Desk.due("MARKED " + s, x.speech(s, 6), y.speech(s, 6));
        }
    }
}
