import java.util.NoSuchElementException;

/** Each promise of the document with answers worked out by hand: ordinary inputs, edges, wrong inputs. */
public final class PromisesTest {
    private static int wrong;
    private static int calls;

    private static void due(String call, long got, long want) {
        calls++;
        if (got != want) {
            wrong++;
            System.out.println(call + " answered " + got + ", due is " + want);
        }
    }

    private static void is(String call, boolean got, boolean want) {
        due(call, got ? 1 : 0, want ? 1 : 0);
    }

    public static void main(String[] args) {
        aNewObject();
        feed();
        end();
        faultsOfBooks();
        faultsOfLaws();
        text();
        speech();
        worth();
        lawAndSetAndMark();
        leap();
        eveningAndEnds();
        nightAndLatest();
        tooMany();
        learn();
        loopHoleStopsFrom();
        rows();
        chanceMeanVisits();
        couldAndFewest();
        understudyAndWorst();
        silenceAndSpare();
        players();
        shortestAndLongest();
        trial();
        doubtfulAndReword();
        imageAndBack();
        anotherBook();
        count();
        System.out.println(wrong == 0 ? calls + " answers are as due" : wrong + " answers are not as due");
        if (wrong != 0) {
            System.exit(1);
        }
    }

    private static int feedText(SheSays x, String text) {
        int answer = 0;
        for (int i = 0; i < text.length(); i += 20) {
            int[] five = new int[5];
            for (int j = i; j < text.length() && j < i + 20; j++) {
                five[(j - i) / 4] |= text.charAt(j) << 24 - (j - i) % 4 * 8;
            }
            answer = x.feed(five[0], five[1], five[2], five[3], five[4]);
        }
        return answer;
    }

    private static int faultOf(int sort, String text) {
        SheSays x = new SheSays();
        feedText(x, text);
        return x.fault(sort);
    }

    private static int take(SheSays x, int sort, String text) {
        x.end(0);
        feedText(x, text);
        return x.text(sort);
    }

    private static SheSays of(String book, String law) {
        SheSays x = new SheSays();
        take(x, 0, book);
        if (!law.isEmpty()) {
            take(x, 1, law);
            x.law(0);
        }
        return x;
    }

    private static void throwsAt(SheSays x, int speech, int what) {
        int thrown = 0;
        try {
            x.speech(speech, what);
        } catch (NoSuchElementException e) {
            thrown = 1;
        }
        due("speech(" + speech + ", " + what + ") throws", thrown, 1);
    }

    private static void aNewObject() {
        SheSays x = new SheSays();
        int[] counts = {0, 0, 0, 0, -1, 0, 0, 0};
        for (int i = 0; i < counts.length; i++) {
            due("new count(" + i + ")", x.count(i), counts[i]);
        }
        throwsAt(x, 0, 0);
        is("new law(-1)", x.law(-1), true);
        is("new law(0)", x.law(0), false);
        is("new mark", x.mark(0, true), false);
        is("new mark off", x.mark(0, false), false);
        due("new leap", x.leap(0), -1000000);
        due("new evening", x.evening(0, -1), -1);
        due("new ends", x.ends(0, 0), -1000000);
        due("new night", x.night(1), -1);
        due("new latest", x.latest(0), -1);
        due("new learn", x.learn(0), -1);
        due("new loop", x.loop(0), -1);
        due("new hole", x.hole(0), -1);
        due("new stops", x.stops(), -1);
        due("new from", x.from(0), -1);
        due("new rows", x.rows(0), -1);
        due("new chance", x.chance(1), -1);
        due("new mean", x.mean(0, 1), -1);
        due("new could", x.could(0), -1);
        due("new fewest", x.fewest(0, 1, 0), -1);
        due("new understudy", x.understudy(1, 0), -1);
        due("new worst", x.worst(1), -1);
        due("new silence", x.silence(0), -1);
        due("new spare", x.spare(1, 0), -1);
        due("new players", x.players(1, -1), -1);
        due("new shortest", x.shortest(0, 0), -1);
        due("new longest", x.longest(0, 0), -1);
        due("new visits", x.visits(0, 1), -1);
        due("new trial", x.trial(1, 0), -1);
        due("new doubtful", x.doubtful(0), -1);
        due("new reword", x.reword(0), -1000000);
        due("new image", x.image(), -1);
        due("new back", x.back(), -1);
    }

    private static void feed() {
        SheSays x = new SheSays();
        due("feed of nothing", x.feed(0, 0, 0, 0, 0), 0);
        due("feed A, x", x.feed(0x41000078, 0, 0, 0, 0), 2);
        due("feed ,By behind zeros", x.feed(0, 0x00002C00, 0, 0x42, 0x79000000), 5);
        due("fault of what was fed", x.fault(0), -1);
        due("text of what was fed", x.text(0), 2);
        due("actor of the second", x.speech(1, 0), 1);
        due("feed of high bytes", x.feed(-1, 0x80808080, 0, 0, 0), 8);
        due("fault of high bytes", x.fault(0), 0);
        is("end(0)", x.end(0), true);
        for (int i = 1; i <= 7; i++) {
            due("feed of 20", x.feed(0x20202020, 0x20202020, 0x20202020, 0x20202020, 0x20202020), 20 * i);
        }
        due("feed of 16", x.feed(0x20202020, 0x20202020, 0x20202020, 0x20202020, 0), 156);
        due("feed of five too many", x.feed(0x41782C42, 0x79000000, 0, 0, 0), -1);
        due("nothing came of it", x.count(3), 156);
        due("feed up to 160", x.feed(0x41782C42, 0, 0, 0, 0), 160);
        due("feed of one more", x.feed(1, 0, 0, 0, 0), -1);
        due("feed of nothing at 160", x.feed(0, 0, 0, 0, 0), 160);
        due("fault at 160", x.fault(0), 160);
    }

    private static void end() {
        SheSays x = new SheSays();
        is("end(1) of nothing", x.end(1), false);
        is("end(0) of nothing", x.end(0), true);
        feedText(x, "Ax,By,Cz");
        is("end(-1)", x.end(-1), false);
        is("end(9)", x.end(9), false);
        due("refused ends change nothing", x.count(3), 8);
        is("end(8)", x.end(8), true);
        due("end(8) leaves all", x.count(3), 8);
        is("end(5)", x.end(5), true);
        due("end(5) leaves 5", x.count(3), 5);
        due("two SPEECHES are left", x.text(0), 2);
    }

    private static void book(String text, int want) {
        due("fault(0) of <" + text + ">", faultOf(0, text), want);
    }

    private static void faultsOfBooks() {
        book("", 0);
        book("   ", 3);
        book("Ax,By", -1);
        book(" A x 7 , B y 9 9 ", 15);
        book("Ax,By ; 0 ", 10);
        book("Ax", 2);
        book("Ax ", 3);
        book("Ax ;", 3);
        book("ax,By", 0);
        book("Ix,By", 0);
        book("Hz,Aa", -1);
        book("A1,By", 1);
        book("Ax,,By", 3);
        book("Ax0,By", 2);
        book("Ax00,By", 3);
        book("Ax01,By", -1);
        book("Ax000,By", 4);
        book("Ax99,By1", -1);
        book("Ax999", 4);
        book("Ax1 2,By", 4);
        book("Ax,By;", 6);
        book("Ax,By;0-0", 8);
        book("Ax,By;1", 7);
        book("Ax,By;2", 6);
        book("Ax,By,Cz;", 9);
        book("Ax,By,Cz;-", 9);
        book("Ax,By,Cz;0", 10);
        book("Ax,By,Cz;0-", 11);
        book("Ax,By,Cz;0,", 10);
        book("Ax,By,Cz;0-1", 11);
        book("Ax,By,Cz;0-01", 12);
        book("Ax,By,Cz;2-2", -1);
        book("Ax,By,Cz;02-02", -1);
        book("Ax,By,Cz;3-3", 9);
        book("Ax,By,Cz;13-3", 10);
        book("Ax,By,Cz;133-3", 11);
        book("Ax,By,Cz;2-3", 11);
        book("Ax,By,Cz;2-1", 11);
        book("Ax,By,Cz;2-2,", 13);
        book("Ax,By,Cz;2-2;", 12);
        book("Ax,By,Cz;0-0,2-2", 15);
        book("Ax,By,Cz,Dd;0-0,1-1", -1);
        book("Ax,By,Cz,Dd;0-0,0-0", 16);
        book("Ax,By,Cz,Dd;1-1,0-0", 16);
        book("Ax,By,Cz,Dd; 1 - 1 , 3 - 3 ", -1);
        book("Ax,By,Cz,Dd;2-3", -1);
        book("Ax,By,Cz,Dd;3-4", 14);
        book("Ax,By,Cz,Dd;3-12", 15);
        book("Ax,By,Cz,Dd;0-0,2-2,3-3", 22);
        book("Ax,By,Cz,Dd;1-1 3", 16);
        StringBuilder many = new StringBuilder("Ax");
        for (int i = 1; i < 24; i++) {
            many.append(",Bx");
        }
        book(many.toString(), -1);
        book(many + ",", 71);
        book(many + " ,Bx", 72);
        book(many + ";0-21", -1);
        book(many + ";0-22", 75);
        book(many + ";2-23", -1);
        book(many + ";2-24", 75);
        due("fault(2)", faultOf(2, "Ax,By"), -2);
        due("fault(-1)", faultOf(-1, "Ax,By"), -2);
    }

    private static void law(String text, int want) {
        due("fault(1) of <" + text + ">", faultOf(1, text), want);
    }

    private static void faultsOfLaws() {
        law("", 0);
        law("y", 1);
        law("y:", 2);
        law("x:1", 0);
        law("y 1", 2);
        law("y:1", -1);
        law(" y : 1 ", -1);
        law("y:1;", 4);
        law("y:1;y", 5);
        law("y:1;;", 4);
        law("y:1;y:2;y:3", -1);
        law("y:aslgcm", 3);
        law("y:a+s-l*g/c+m", -1);
        law("y:b", 2);
        law("y:-1", 2);
        law("y:1+", 4);
        law("y:1+*2", 4);
        law("y:0000", -1);
        law("y:9999", -1);
        law("y:10000", 6);
        law("y:1 0", 4);
        law("y:[1]", -1);
        law("y:[1", 4);
        law("y:[1)", 4);
        law("y:[]", 3);
        law("y:[a=1]?2", 4);
        law("y:a=1", 5);
        law("y:a=1?", 6);
        law("y:a=1?2", -1);
        law("y:a?2", 3);
        law("y:a=1=2?3", 5);
        law("y:a=1&s<2|l>3?4", -1);
        law("y:a=1&?4", 6);
        law("y:a=1&s?4", 7);
        law("y:(a=1)?2", -1);
        law("y:(a=1)", 7);
        law("y:(a=1", 6);
        law("y:(a)=1?2", 4);
        law("y:(a=1)+1?2", 7);
        law("y:(a=1|!s=2)&m=1?2", -1);
        law("y:!a=1?2", -1);
        law("y:!a", 4);
        law("y:!!(!a=1)?2", -1);
        law("y:!1?2", 4);
        law("y:a=(1)?2", 4);
        law("y:a=!1?2", 4);
        law("y:1?(a", 3);
        law("y:a=1?(a=1)", 6);
        law("y:a=1?2;y:a=1", 13);
        law("y:[[[[[[1]]]]]]", -1);
        law("y:[[[[[[[1]]]]]]]", 8);
        law("y:!!!!!!a=1?2", -1);
        law("y:!!!!!!!a=1?2", 8);
        law("y:((((((a=1))))))?2", -1);
        law("y:(((((((a=1)))))))?2", 8);
        law("y:!(!(!(a=1)))?2", -1);
        law("y:!(!(!(!a=1)))?2", 8);
        law("y:!(!(!([a]=1)))?2", 8);
        law("y:!(!(![1]=1))&!!!!!!a=[1]?2", 23);
        law("y:!!!!!!a=1&!!!!!!a=1|[[[[[[1]]]]]]=1?[[[[[[1]]]]]]", -1);
        law("Ax,By", 0);
        due("fault(0) of a LAW", faultOf(0, "y:1"), 0);
    }

    private static void text() {
        SheSays x = new SheSays();
        feedText(x, "Ax,By,C");
        due("text(0) with a FAULT", x.text(0), -1);
        due("text(1) with a FAULT", x.text(1), -1);
        due("text(2)", x.text(2), -1);
        due("text(-1)", x.text(-1), -1);
        due("the TAPE stays", x.count(3), 7);
        due("no BOOK came of it", x.count(1), 0);
        feedText(x, "z");
        due("text(0)", x.text(0), 3);
        due("the TAPE is empty", x.count(3), 0);
        due("text(0) of nothing", x.text(0), -1);
        due("the BOOK stays", x.count(1), 3);
        for (int i = 0; i < 4; i++) {
            due("LAW " + i, take(x, 1, "y:" + i), i);
        }
        due("a fifth LAW", take(x, 1, "y:4"), -1);
        due("its TAPE stays", x.count(3), 3);
        due("it has no FAULT", x.fault(1), -1);
        due("four LAWS", x.count(2), 4);
        due("with CUTS", take(x, 0, "Ax,By,Cz,Dd;1-2"), 2);
    }

    private static void speech() {
        SheSays x = of("Ax9,Bx,Cq,Ax,Bz,Ax,Bz,Ax;2-2", "");
        // the PLAY: 0 Ax9, 1 Bx, 2 Ax, 3 Bz, 4 Ax, 5 Bz, 6 Ax
        int[][] want = {
            {0, 23, 9, -1, 0, 0, 0, 0, 0, 0},
            {1, 23, 5, 23, 1, 2, 0, 0, 1, 0},
            {0, 23, 5, 23, 1, 0, 0, 0, 3, 0},
            {1, 25, 5, 23, 1, 2, 0, 0, 4, 0},
            {0, 23, 5, 25, 1, 1, 0, 0, 5, 0},
            {1, 25, 5, 23, 1, 2, 0, 0, 6, 0},
            {0, 23, 5, 25, 1, 1, 0, 0, 7, 0},
        };
        for (int s = 0; s < want.length; s++) {
            for (int what = 0; what < 10; what++) {
                due("speech(" + s + ", " + what + ")", x.speech(s, what), want[s][what]);
            }
        }
        throwsAt(x, 7, 0);
        throwsAt(x, -1, 0);
        throwsAt(x, 0, 10);
        throwsAt(x, 0, -1);
        throwsAt(x, Integer.MIN_VALUE, 0);
        x.mark(3, true);
        due("MARKED", x.speech(3, 6), 1);
        x = of("Ax,Ay,Cz,Dd,Ae,Cf", "");
        due("GAP of the next", x.speech(1, 4), 0);
        due("GAP of the first of its ACTOR", x.speech(2, 4), 2);
        due("GAP over two", x.speech(4, 4), 2);
        due("GAP over two more", x.speech(5, 4), 2);
    }

    private static void worthIs(String law, int speech, int want) {
        // speech 0: a 0 l 5 g 0 c 0; 1: a 1 l 40 g 1 c 1; 2: a 0 l 7 g 1 c 0; 3: a 1 l 5 g 1 c 1, and 2 and 4 alike
        SheSays x = of("Ax,Bx40,Ax7,Bx,Ax", law);
        due("FORGETS of " + speech + " by " + law, x.speech(speech, 7), want);
    }

    private static void worth() {
        worthIs("y:7", 0, 7);
        worthIs("y:0100", 0, 100);
        worthIs("y:101", 0, 100);
        worthIs("y:9999*9999", 0, 100);
        worthIs("y:0-1", 0, 0);
        worthIs("y:a", 1, 1);
        worthIs("y:s", 3, 3);
        worthIs("y:l", 1, 40);
        worthIs("y:g*10", 4, 10);
        worthIs("y:c*10", 1, 10);
        worthIs("y:c*10", 2, 10);
        worthIs("y:c*10", 0, 0);
        worthIs("y:m*30+2", 0, 2);
        worthIs("y:2+3*4", 0, 14);
        worthIs("y:[2+3]*4", 0, 20);
        worthIs("y:20-5-3", 0, 12);
        worthIs("y:20-[5-3]", 0, 18);
        worthIs("y:40/4/2", 0, 5);
        worthIs("y:40/[4/2]", 0, 20);
        worthIs("y:7/2*2", 0, 6);
        worthIs("y:50+[0-7]/2", 0, 47);
        worthIs("y:50+7/[0-2]", 0, 47);
        worthIs("y:50+7/0", 0, 50);
        worthIs("y:50+7/[a-a]*3", 0, 50);
        worthIs("y:9999*9999/9999", 0, 100);
        worthIs("y:9999*9999-9999*99+1-9901", 0, 100);
        worthIs("y:9999*9999-9999*100-70", 0, 30);
        worthIs("y:9999*[0-9999]+9999*100+130", 0, 30);
        worthIs("y:[9999*9999+5]-9999*100-70", 0, 30);
        worthIs("y:[0-9999*9999-5]+9999*100+130", 0, 30);
        worthIs("y:s=2?30;y:s>2?40;y:50", 1, 50);
        worthIs("y:s=2?30;y:s>2?40;y:50", 2, 30);
        worthIs("y:s=2?30;y:s>2?40;y:50", 3, 40);
        worthIs("y:s=2?30;y:s<2?40", 3, 0);
        worthIs("y:11;y:s=3?40", 3, 11);
        worthIs("y:s=3&a=1?9;y:5", 3, 9);
        worthIs("y:s=3&a=0?9;y:5", 3, 5);
        worthIs("y:s=3|a=0?9;y:5", 3, 9);
        worthIs("y:s=2|a=0?9;y:5", 3, 5);
        worthIs("y:s=3|a=0&s=1?9;y:5", 3, 9);
        worthIs("y:(s=3|a=0)&s=1?9;y:5", 3, 5);
        worthIs("y:!s=3?9;y:5", 3, 5);
        worthIs("y:!s=3?9;y:5", 2, 9);
        worthIs("y:!s=3|s=3?9;y:5", 3, 9);
        worthIs("y:!(s=3|s=3)?9;y:5", 3, 5);
        worthIs("y:!!s=3?9;y:5", 3, 9);
        worthIs("y:!s=3&s=2?9;y:5", 2, 9);
        worthIs("y:s<3?9;y:5", 3, 5);
        worthIs("y:s>3?9;y:5", 3, 5);
        worthIs("y:1+s=2*2?9;y:5", 3, 9);
        StringBuilder full = new StringBuilder("y:l");
        while (full.length() < 159) {
            full.append("+0");
        }
        worthIs(full.append(' ').toString(), 1, 40);
        worthIs("y:[[[[[[1+1]*2+1]*2+1]*2+1]*2+1]*2+1]-1", 0, 94);
        SheSays x = of("Ax,By", "y:m=1?60;y:20");
        due("FORGETS not MARKED", x.speech(0, 7), 20);
        x.mark(0, true);
        due("FORGETS MARKED", x.speech(0, 7), 60);
        due("FORGETS of the other", x.speech(1, 7), 20);
    }

    private static void lawAndSetAndMark() {
        SheSays x = of("Ax,By", "y:10");
        take(x, 1, "y:20");
        due("the first LAW holds", x.speech(0, 7), 10);
        is("law(1)", x.law(1), true);
        due("the second LAW holds", x.speech(0, 7), 20);
        is("law(2)", x.law(2), false);
        is("law(-2)", x.law(-2), false);
        is("law(MIN)", x.law(Integer.MIN_VALUE), false);
        due("the second LAW still holds", x.count(4), 1);
        is("law(-1)", x.law(-1), true);
        due("no LAW holds", x.speech(0, 7), 0);
        is("set KIND 3", x.set(7, 0, 3), true);
        is("set KIND 4", x.set(7, 0, 4), false);
        is("set KIND -1", x.set(7, 0, -1), false);
        is("set TAKE 0", x.set(0, 1, 0), true);
        is("set TAKE 100", x.set(0, 1, 100), true);
        is("set TAKE 101", x.set(0, 1, 101), false);
        is("set TAKE -1", x.set(0, 1, -1), false);
        is("set of ACTOR 8", x.set(8, 0, 1), false);
        is("set of ACTOR -1", x.set(-1, 0, 1), false);
        is("set what 2", x.set(0, 2, 1), false);
        is("set what -1", x.set(0, -1, 1), false);
        is("mark(1)", x.mark(1, true), true);
        is("mark(1) again", x.mark(1, true), false);
        is("mark(0) off", x.mark(0, false), false);
        is("mark(2)", x.mark(2, true), false);
        is("mark(-1)", x.mark(-1, true), false);
        is("mark(32)", x.mark(32, true), false);
        due("one MARKED", x.count(6), 1);
        is("mark(1) off", x.mark(1, false), true);
        due("none MARKED", x.count(6), 0);
    }

    private static void leap() {
        // A's 1, 2, 3, 6 are LIKE, the first has no CUE
        SheSays x = of("Ax,Ax,Ax,Ay,Bq,Bx,Ax", "");
        int[][] want = {{-1, -1, -1, -1}, {-1, 2, -1, 2}, {-1, 3, 1, 1}, {-1, 6, 2, 2}, {-1, -1, -1, -1}, {-1, -1, -1, -1}, {-1, -1, 3, 3}};
        for (int kind = 0; kind < 4; kind++) {
            x.set(0, 0, kind);
            for (int s = 0; s < want.length; s++) {
                due("leap(" + s + ") by KIND " + kind, x.leap(s), want[s][kind]);
            }
        }
        due("leap(7)", x.leap(7), -1000000);
        due("leap(-1)", x.leap(-1), -1000000);
        x = of("Bx,Ax,Cc,Dx,Ax,Bx,Ax", "");
        x.set(0, 0, 3);
        due("the nearer is behind", x.leap(4), 6);
        due("the nearer is ahead", x.leap(6), 4);
        due("only one behind", x.leap(1), 4);
    }

    private static void eveningAndEnds() {
        // 0 Ax, 1 Bx9, 2 Ax, 3 Bx: B's 1 and 3 are LIKE, A has 2 alone with a CUE
        SheSays x = of("Ax,Bx9,Ax,Bx", "");
        x.set(1, 0, 3);
        int[] plain = {0, 1, 2, 3};
        for (int i = 0; i < 4; i++) {
            due("evening(0, " + i + ")", x.evening(0, i), plain[i]);
        }
        due("evening(0, 4)", x.evening(0, 4), -1);
        due("evening(0, -2)", x.evening(0, -2), -1);
        due("ends(0, 2)", x.ends(0, 2), 24);
        // 3 is LOST the first time, leaps to 1, and is said the second time
        int[] looped = {0, 1, 2, 1, 2, 3};
        due("evening(8, -1)", x.evening(8, -1), 6);
        for (int i = 0; i < 6; i++) {
            due("evening(8, " + i + ")", x.evening(8, i), looped[i]);
        }
        due("ends(8, 0)", x.ends(8, 0), 0);
        due("ends(8, 1)", x.ends(8, 1), -1);
        due("ends(8, 2)", x.ends(8, 2), 5 + 9 + 5 + 9 + 5 + 5);
        // 1 leaps to 3, which is not LOST then: the END
        due("evening(10, -1)", x.evening(10, -1), 2);
        due("evening(10, 1)", x.evening(10, 1), 3);
        due("ends(4, 0)", x.ends(4, 0), 1);
        due("ends(4, 1)", x.ends(4, 1), 2);
        due("ends(4, 2)", x.ends(4, 2), 14);
        due("evening(4, -1)", x.evening(4, -1), 2);
        due("evening(4, 2)", x.evening(4, 2), -1);
        // marks and laws are not asked
        x.mark(2, true);
        x.set(0, 1, 100);
        take(x, 1, "y:100");
        x.law(0);
        due("ends(4, 0) with whispers", x.ends(4, 0), 1);
        due("ends(0, 0) with FORGETS", x.ends(0, 0), 0);
        due("evening(16, -1)", x.evening(16, -1), -1);
        due("evening(-1, -1)", x.evening(-1, -1), -1);
        due("ends(16, 0)", x.ends(16, 0), -1000000);
        due("ends(-1, 0)", x.ends(-1, 0), -1000000);
        due("ends(0, 3)", x.ends(0, 3), -1000000);
        due("ends(0, -1)", x.ends(0, -1), -1000000);
        due("evening(15, -1)", x.evening(15, -1), 0);
    }

    private static int[] draws(long seed, int n) {
        int[] found = new int[n];
        long x = seed;
        for (int i = 0; i < n; i++) {
            x = x * 6364136223846793005L + 1442695040888963407L;
            found[i] = (int) ((x >>> 33) % 100);
        }
        return found;
    }

    private static void nightAndLatest() {
        SheSays x = of("Ax,By7", "y:50");
        due("latest of none", x.latest(0), -1);
        for (long seed = -3; seed <= 3; seed++) {
            int[] d = draws(seed, 2);
            boolean firstLost = d[0] < 50;
            boolean secondLost = !firstLost && d[1] < 50;
            due("night(" + seed + ")", x.night(seed), firstLost || secondLost ? 1 : 0);
            due("latest(0)", x.latest(0), firstLost ? 0 : secondLost ? 1 : 2);
            due("latest(1)", x.latest(1), firstLost || secondLost ? 1 : 0);
            due("latest(2)", x.latest(2), 0);
            due("latest(3)", x.latest(3), firstLost ? 0 : secondLost ? 5 : 12);
            due("latest(4)", x.latest(4), 0);
        }
        due("latest(5)", x.latest(5), -1);
        due("latest(-1)", x.latest(-1), -1);
        due("NIGHTS", x.count(5), 7);
        // all is LOST; 0 and 1 are MARKED, the draws for whispers are of A and of B
        x = of("Ax,Bx,Cz,Bx", "y:s=3?0;y:100");
        x.mark(0, true);
        x.mark(1, true);
        x.set(0, 1, 100);
        x.set(1, 1, 0);
        due("night with a STOP", x.night(9), 1);
        due("its SAVED", x.latest(2), 1);
        due("its LOST", x.latest(1), 2);
        due("its SECONDS", x.latest(3), 8);
        due("its first LOST", x.speech(0, 9), 1);
        due("its second LOST", x.speech(1, 9), 1);
        x.set(1, 1, 50);
        for (int seed = 0; seed < 8; seed++) {
            int[] d = draws(seed, 4);
            boolean saved = d[3] < 50;
            x.night(seed);
            // B's whisper is the fourth draw; with it C is LOST, without it B STOPS
            due("SAVED by the fourth draw of " + seed, x.latest(2), saved ? 2 : 1);
            due("said", x.latest(0), saved ? 2 : 1);
            due("LOST", x.latest(1), saved ? 3 : 2);
        }
        nightAtTheBounds();
        x = of("Ax,Bx,Ax,Bx", "y:s=1?100;y:0");
        x.set(1, 0, 1);
        due("night with a LEAP", x.night(4), 0);
        due("its LEAPS", x.latest(4), 1);
        due("its said", x.latest(0), 2);
        due("its SECONDS", x.latest(3), 10);
    }

    /** A draw that is just FORGETS or TAKE is not below it. */
    private static void nightAtTheBounds() {
        for (int seed = 0; seed < 20; seed++) {
            int[] d = draws(seed, 2);
            SheSays x = of("Ax,By", "y:s=1?0;y:" + d[0]);
            x.night(seed);
            due("LOST by a draw that is FORGETS", x.latest(1), 0);
            take(x, 1, "y:s=1?0;y:" + (d[0] + 1));
            x.law(1);
            x.night(seed);
            due("LOST by a draw below FORGETS", x.latest(1), 1);
            x.mark(0, true);
            x.set(0, 1, d[1]);
            x.night(seed);
            due("SAVED by a draw that is TAKE", x.latest(2), 0);
            x.set(0, 1, d[1] + 1);
            x.night(seed);
            due("SAVED by a draw below TAKE", x.latest(2), 1);
        }
    }

    private static void tooMany() {
        // 2 is LOST each time it is come to and leaps back to 1: 0, 1, then 1 again and again
        SheSays x = of("Ax,Bx,Bx", "y:s=2?100;y:0");
        x.set(1, 0, 2);
        due("night with too many", x.night(0), 2);
        due("said up to 200", x.latest(0), 200);
        due("LEAPS up to then", x.latest(4), 198);
        due("LOST up to then", x.latest(1), 198);
        due("SECONDS up to then", x.latest(3), 1000);
        due("it is never said", x.visits(2, 200), 0);
        due("VISITS may be many", x.visits(1, 200), 199L * 1000000000L);
        due("CHANCE of that", x.chance(200), 0);
        due("MEAN of too many", x.mean(2, 200), 0);
        due("TRIAL of that", x.trial(50, 1), 50000);
        due("LOST of that", x.trial(50, 2), 50 * 198);
        due("none comes to the END", x.trial(50, 0), 0);
        // the 200th said is the last one: that is the END
        x = of("Ax,Bx,Bx", "y:0");
        due("CHANCE with just as many", x.chance(3), 1000000000);
        due("CHANCE with one fewer", x.chance(2), 0);
    }

    private static void learn() {
        SheSays x = of("Ax,Bx,Cz,Bx", "y:s=0?100;y:s=2?100;y:0");
        x.mark(0, true);
        x.set(0, 1, 100);
        x.night(1);
        x.night(1);
        x.mark(0, false);
        x.night(1);
        // 0 is LOST three times, 2 twice
        due("0 was LOST", x.speech(0, 9), 3);
        due("2 was LOST", x.speech(2, 9), 2);
        x.mark(3, true);
        due("learn(1)", x.learn(1), 1);
        due("0 is MARKED", x.speech(0, 6), 1);
        due("3 is not any more", x.speech(3, 6), 0);
        due("learn(24)", x.learn(24), 2);
        due("2 is MARKED", x.speech(2, 6), 1);
        due("learn(25)", x.learn(25), -1);
        due("learn(-1)", x.learn(-1), -1);
        due("still two", x.count(6), 2);
        due("learn(0)", x.learn(0), 0);
        x = of("Ax,Bx,Cz", "y:s<2?100;y:0");
        x.mark(0, true);
        x.set(0, 1, 100);
        x.night(1);
        // 0 and 1 were LOST once each: the lowest is taken
        x.mark(0, false);
        due("learn(1) of two", x.learn(1), 1);
        due("the lowest is MARKED", x.speech(0, 6), 1);
    }

    private static void loopHoleStopsFrom() {
        // A's 1, 2 and 7 are LIKE (CUE x), B's 4 and 6 (CUE q)
        SheSays x = of("Ax,Ax,Aq,Aq,Bz,Cq,Bx,Ax", "");
        due("no loop", x.loop(0), -1);
        due("no loop's LOST one", x.loop(1), -1);
        due("no hole", x.hole(0), -1);
        due("no hole's LOST one", x.hole(1), -1);
        due("all STOP", x.stops(), 255);
        x.set(0, 0, 2);
        x.set(1, 0, 2);
        due("loop(0)", x.loop(0), 1);
        due("loop(1)", x.loop(1), 2);
        due("STOPS", x.stops(), 255 - (1 << 2) - (1 << 7) - (1 << 6));
        due("FROM 1", x.from(1), 1 << 2);
        due("FROM 2", x.from(2), 1 << 7);
        due("FROM 4", x.from(4), 1 << 6);
        due("FROM 0", x.from(0), 0);
        x.set(0, 0, 0);
        due("loop(0) of B alone", x.loop(0), 2);
        due("loop(1) of B alone", x.loop(1), 6);
        x.set(0, 0, 1);
        x.set(1, 0, 1);
        due("no loop ahead", x.loop(0), -1);
        due("hole(0)", x.hole(0), 5);
        due("hole(1)", x.hole(1), 2);
        due("loop(2)", x.loop(2), -1);
        due("loop(-1)", x.loop(-1), -1);
        due("hole(2)", x.hole(2), -1);
        due("hole(-1)", x.hole(-1), -1);
        due("from(8)", x.from(8), -1);
        due("from(-1)", x.from(-1), -1);
        // of several the lowest
        x = of("Ax,Ax,Ax,Ax", "");
        x.set(0, 0, 2);
        due("several loops", x.loop(0), 1);
        due("the lowest of several loops", x.loop(1), 2);
        x.set(0, 0, 1);
        due("several holes", x.hole(0), 1);
        due("the lowest of several holes", x.hole(1), 1);
    }

    private static void rows() {
        // 2 leaps to 1: each loss says 1 once more
        SheSays x = of("Ax,Bx,Bx", "");
        due("rows(0)", x.rows(0), 1);
        due("rows(1) with STOPS alone", x.rows(1), 0);
        x.set(1, 0, 2);
        for (int k = 0; k <= 6; k++) {
            due("rows(" + k + ") of one loop", x.rows(k), 1);
        }
        due("rows(7)", x.rows(7), -1);
        due("rows(-1)", x.rows(-1), -1);
        // 1 leaps on to 2, 2 back to 1
        x.set(1, 0, 3);
        due("rows(1) of both", x.rows(1), 2);
        due("rows(2) of both", x.rows(2), 1);
        // all but the first of A (0), its next one (2) and the first of B (1) leap two back
        StringBuilder text = new StringBuilder("Ax");
        for (int i = 1; i < 24; i++) {
            text.append(i % 2 == 0 ? ",Ax" : ",Bx");
        }
        x = of(text.toString(), "");
        x.set(0, 0, 2);
        x.set(1, 0, 2);
        due("rows(0) of many", x.rows(0), 1);
        due("rows(1) of many", x.rows(1), 21);
        // 12 to 22 are LIKE 1 to 11 and leap 11 back, so the next loss can be at each of them again
        x = of("Aa,Ab,Ac,Ad,Ae,Af,Ag,Ah,Ai,Aj,Ak,Aa,Ab,Ac,Ad,Ae,Af,Ag,Ah,Ai,Aj,Ak,Al,Aa", "");
        x.set(0, 0, 2);
        for (int k = 0, want = 1; k <= 6; k++, want *= 11) {
            due("rows(" + k + ") of eleven loops", x.rows(k), want);
        }
    }

    private static void chanceMeanVisits() {
        // 2 is LOST to half and leaps to 1; 0 and 1 STOP by half
        SheSays x = of("Ax,Ax,Ax", "y:50");
        x.set(0, 0, 2);
        int[] chances = {0, 0, 125000000, 187500000, 218750000};
        for (int most = 1; most <= 5; most++) {
            due("chance(" + most + ")", x.chance(most), chances[most - 1]);
        }
        due("chance(0)", x.chance(0), -1);
        due("chance(201)", x.chance(201), -1);
        due("chance(-1)", x.chance(-1), -1);
        due("mean(0, 1)", x.mean(0, 1), 500000000);
        due("mean(1, 1)", x.mean(1, 1), 0);
        due("mean(1, 2)", x.mean(1, 2), 250000000);
        due("mean(2, 5)", x.mean(2, 5), 0);
        due("mean(3, 5)", x.mean(3, 5), -1);
        due("mean(-1, 5)", x.mean(-1, 5), -1);
        due("mean(0, 0)", x.mean(0, 0), -1);
        due("mean(0, 201)", x.mean(0, 201), -1);
        due("visits(0, 1)", x.visits(0, 1), 500000000);
        due("visits(1, 1)", x.visits(1, 1), 0);
        due("visits(1, 2)", x.visits(1, 2), 250000000);
        due("visits(1, 3)", x.visits(1, 3), 375000000);
        due("visits(2, 3)", x.visits(2, 3), 125000000);
        due("visits(2, 4)", x.visits(2, 4), 187500000);
        due("visits(3, 5)", x.visits(3, 5), -1);
        due("visits(0, 0)", x.visits(0, 0), -1);
        due("visits(0, 201)", x.visits(0, 201), -1);
        x.mark(2, true);
        due("chance(3) MARKED", x.chance(3), 187500000);
        x.set(0, 1, 100);
        due("chance(3) MARKED, TAKE 100", x.chance(3), 250000000);
        x.mark(0, true);
        due("mean(0, 1) SAVED", x.mean(0, 1), 0);
        due("visits(0, 1) SAVED", x.visits(0, 1), 1000000000);
        // what is cut: 7 of 100 of 1, 93 of what is left
        x = of("Ax,By,Cz,Dd,Ee", "y:93");
        long parts = 1000000000;
        for (int i = 0; i < 5; i++) {
            parts -= parts * 93 / 100;
        }
        due("chance, cut", x.chance(5), parts);
        x.mark(4, true);
        x.set(4, 1, 33);
        parts = 1000000000;
        for (int i = 0; i < 4; i++) {
            parts -= parts * 93 / 100;
        }
        long lost = parts * 93 / 100;
        due("chance, cut twice", x.chance(5), parts - lost + lost * 33 / 100);
    }

    private static void couldAndFewest() {
        SheSays x = of("Ax,Bx,Cx,Dx", "y:10");
        due("fewest of none, enough", x.fewest(656100000, 4, 0), 0);
        due("fewest of none, not enough", x.fewest(656100001, 4, 0), -1);
        due("could(3)", x.could(3), 1);
        due("could(3) again", x.could(3), -1);
        due("could(4)", x.could(4), -1);
        due("could(-1)", x.could(-1), -1);
        due("could(1)", x.could(1), 2);
        x.set(3, 1, 100);
        x.set(1, 1, 100);
        due("fewest: any one", x.fewest(656100001, 4, 0), 1);
        due("fewest: the least of several", x.fewest(656100001, 4, 1), 2);
        due("fewest: both", x.fewest(810000000, 4, 0), 2);
        due("fewest: both of them", x.fewest(810000000, 4, 1), 10);
        due("fewest: more than can be", x.fewest(810000001, 4, 1), -1);
        due("fewest: none", x.fewest(0, 1, 0), 0);
        due("fewest: none of them", x.fewest(0, 1, 1), 0);
        due("fewest: too few said", x.fewest(1, 3, 0), -1);
        // MARKED ones that COULD be count only if chosen; others stay MARKED
        x.mark(3, true);
        due("fewest with 3 MARKED", x.fewest(656100001, 4, 1), 2);
        x.mark(0, true);
        x.set(0, 1, 100);
        due("fewest with 0 MARKED", x.fewest(729000000, 4, 0), 0);
        due("fewest parts below 0", x.fewest(-1, 4, 0), -1);
        due("fewest parts too many", x.fewest(1000000001, 4, 0), -1);
        due("fewest most 0", x.fewest(0, 0, 0), -1);
        due("fewest most 201", x.fewest(0, 201, 0), -1);
        due("fewest what 2", x.fewest(0, 4, 2), -1);
        due("fewest what -1", x.fewest(0, 4, -1), -1);
        due("nothing is MARKED by it", x.count(6), 2);
        // fewer marks go ahead of lower bits
        x = of("Ax,Bx,Cx", "y:s=2?50;y:10");
        for (int i = 0; i < 3; i++) {
            x.set(i, 1, 100);
            x.could(i);
        }
        due("one mark of much", x.fewest(800000000, 3, 1), 4);
        x = of("Ax,Bx,Cx,Dx,Ex,Fx,Gx,Hx,Ax,Bx,Cx", "");
        for (int i = 0; i < 10; i++) {
            due("could(" + i + ")", x.could(i), i + 1);
        }
        due("an eleventh", x.could(10), -1);
        due("ten COULD", x.count(7), 10);
        // a mark may make FORGETS greater
        x = of("Ax,By", "y:m*90");
        x.could(0);
        due("a mark that harms", x.fewest(1000000000, 2, 1), 0);
    }

    private static void understudyAndWorst() {
        SheSays x = of("Ax,Bx,Ax,Cx", "y:a=2?30;y:20");
        // 0.8^3 * 0.7; without A 0.8 * 0.7, without B 0.64 * 0.7, without C 0.512
        due("understudy", x.understudy(4, 0), 0);
        due("understudy's CHANCE", x.understudy(4, 1), 560000000);
        due("understudy most 0", x.understudy(0, 0), -1);
        due("understudy most 201", x.understudy(201, 0), -1);
        due("understudy what 2", x.understudy(4, 2), -1);
        due("understudy what -1", x.understudy(4, -1), -1);
        due("understudy with too few said", x.understudy(3, 0), 0);
        due("understudy's CHANCE then", x.understudy(3, 1), 0);
        due("worst", x.worst(4), 3);
        x.mark(3, true);
        due("worst of the rest", x.worst(4), 0);
        x.set(1, 1, 60);
        due("worst by TAKE", x.worst(4), 1);
        due("worst with too few said", x.worst(3), 0);
        due("worst(0)", x.worst(0), -1);
        due("worst(201)", x.worst(201), -1);
        for (int i = 0; i < 3; i++) {
            x.mark(i, true);
        }
        due("worst if all are MARKED", x.worst(4), -1);
        // the lowest ACTOR that has a SPEECH
        x = of("Cx,By", "");
        due("the lowest with a SPEECH", x.understudy(2, 0), 1);
        due("its CHANCE", x.understudy(2, 1), 1000000000);
    }

    private static void silenceAndSpare() {
        SheSays x = of("Ax7,Bx9,Cy,Ax11,Az,Bx,Dd,Ax", "");
        due("silence(0)", x.silence(0), 14);
        due("silence(1)", x.silence(1), 21);
        due("silence(2)", x.silence(2), -1);
        due("silence(4)", x.silence(4), -1);
        due("silence(8)", x.silence(8), -1);
        due("silence(-1)", x.silence(-1), -1);
        due("silence with none between", of("Ax,Ay", "").silence(0), 0);
        // WORDS x x y x z x d x
        due("spare(1, 0)", x.spare(1, 0), 1);
        due("spare(1, 1)", x.spare(1, 1), 0);
        due("spare(2, 0)", x.spare(2, 0), 2);
        due("spare(2, 1)", x.spare(2, 1), 0);
        due("spare(6, 0)", x.spare(6, 0), 1);
        due("spare(6, 1)", x.spare(6, 1), 1);
        due("spare(7, 0)", x.spare(7, 0), -1);
        due("spare(7, 1)", x.spare(7, 1), -1);
        due("spare(0, 0)", x.spare(0, 0), -1);
        due("spare(9, 0)", of("Ax,Ax,Ax,Ax,Ax,Ax,Ax,Ax,Ax,Ax,Ax,Ax", "").spare(9, 0), -1);
        due("spare(8, 0)", of("Ax,Ax,Ax,Ax,Ax,Ax,Ax,Ax,Ax,Ax,Ax,Ax", "").spare(8, 0), 1);
        due("spare(1, 2)", x.spare(1, 2), -1);
        due("spare(1, -1)", x.spare(1, -1), -1);
        due("spare(1, 0) of two", of("Ax,By", "").spare(1, 0), -1);
        due("spare(1, 1) of three", of("Ax,By,Cz", "").spare(1, 1), 1);
        due("spare, the last not among them", of("Ax,By,Cz,Dz", "").spare(1, 0), 1);
    }

    private static void players() {
        // numbers A 0 3, B 1, C 5, D 2
        SheSays x = of("Ax,Bx,Dx,Ax,Hx,Cx;4-4", "");
        // the PLAY: A 0, B 1, D 2, A 3, C 4
        due("players(1, -1)", x.players(1, -1), 1);
        due("players(1, 0)", x.players(1, 0), 14);
        due("players(2, 0)", x.players(2, 0), 0);
        due("players(2, 1)", x.players(2, 1), 4);
        due("players(2, 2)", x.players(2, 2), 10);
        due("players(2, 3)", x.players(2, 3), 4);
        due("players(2, -1)", x.players(2, -1), 3);
        due("players(3, 1)", x.players(3, 1), 4);
        due("players(3, -1)", x.players(3, -1), 3);
        due("players(4, -1)", x.players(4, -1), 4);
        due("players(24, -1)", x.players(24, -1), 4);
        due("players(0, -1)", x.players(0, -1), -1);
        due("players(25, -1)", x.players(25, -1), -1);
        due("players(1, 7), which is CUT", x.players(1, 7), -1);
        due("players(1, 4)", x.players(1, 4), -1);
        due("players(1, 8)", x.players(1, 8), -1);
        due("players(1, -2)", x.players(1, -2), -1);
        // three that can share by twos, but not all three
        x = of("Ax,Hx,Hx,Bx,Hx,Hx,Ax,Cx,Hx,Bx", "");
        due("players by twos", x.players(2, -1), 3);
        due("one player for two", of("Ax,Bx", "").players(2, -1), 2);
    }

    private static void shortestAndLongest() {
        SheSays x = of("Ax,Bx,Ax,Bx,Ax,Bx", "");
        due("shortest with STOPS alone", x.shortest(4, 0), 6);
        due("its LOSSES", x.shortest(4, 1), 0);
        due("longest with STOPS alone", x.longest(4, 0), 6);
        x.set(1, 0, 1);
        // B's 1, 3, 5 leap on by 2 each
        due("shortest(0, 0)", x.shortest(0, 0), 6);
        due("shortest(1, 0)", x.shortest(1, 0), 4);
        due("shortest(1, 1)", x.shortest(1, 1), 2);
        due("shortest(2, 0)", x.shortest(2, 0), 4);
        due("longest(4, 0)", x.longest(4, 0), 6);
        due("longest(4, 1)", x.longest(4, 1), 0);
        x.set(1, 0, 2);
        x.set(0, 0, 2);
        // A's 4 leaps to 2, B's 3 to 1, 5 to 3
        due("longest(1, 0)", x.longest(1, 0), 8);
        due("longest(1, 1)", x.longest(1, 1), 8);
        due("longest(3, 0)", x.longest(3, 0), 12);
        due("longest(3, 1)", x.longest(3, 1), 56);
        due("longest(4, 1)", x.longest(4, 1), 56);
        due("shortest(4, 0)", x.shortest(4, 0), 6);
        due("shortest(5, 0)", x.shortest(5, 0), -1);
        due("shortest(-1, 0)", x.shortest(-1, 0), -1);
        due("shortest(1, 2)", x.shortest(1, 2), -1);
        due("shortest(1, -1)", x.shortest(1, -1), -1);
        due("longest(5, 0)", x.longest(5, 0), -1);
        due("longest(-1, 0)", x.longest(-1, 0), -1);
        due("longest(1, 2)", x.longest(1, 2), -1);
        due("longest(1, -1)", x.longest(1, -1), -1);
    }

    private static void trial() {
        SheSays x = of("Ax,By7", "y:50");
        x.night(77);
        int before = x.latest(0);
        int lostBefore = x.speech(0, 9) + x.speech(1, 9);
        for (int n = 1; n <= 50; n += 7) {
            int ends = 0;
            int seconds = 0;
            int lost = 0;
            for (int seed = 0; seed < n; seed++) {
                int[] d = draws(seed, 2);
                boolean first = d[0] < 50;
                boolean second = !first && d[1] < 50;
                ends += first || second ? 0 : 1;
                seconds += first ? 0 : second ? 5 : 12;
                lost += first || second ? 1 : 0;
            }
            due("trial(" + n + ", 0)", x.trial(n, 0), ends);
            due("trial(" + n + ", 1)", x.trial(n, 1), seconds);
            due("trial(" + n + ", 2)", x.trial(n, 2), lost);
        }
        due("trial(0, 0)", x.trial(0, 0), -1);
        due("trial(51, 0)", x.trial(51, 0), -1);
        due("trial(-1, 0)", x.trial(-1, 0), -1);
        due("trial(1, 3)", x.trial(1, 3), -1);
        due("trial(1, -1)", x.trial(1, -1), -1);
        due("nothing is kept: NIGHTS", x.count(5), 1);
        due("nothing is kept: the latest", x.latest(0), before);
        due("nothing is kept: LOST", x.speech(0, 9) + x.speech(1, 9), lostBefore);
        x.mark(0, true);
        x.mark(1, true);
        x.set(0, 1, 100);
        x.set(1, 1, 100);
        take(x, 1, "y:100");
        x.law(1);
        due("all SAVED", x.trial(50, 0), 50);
        due("whispers cost SECONDS", x.trial(50, 1), 50 * 18);
        due("SAVED are LOST", x.trial(50, 2), 100);
    }

    private static void doubtfulAndReword() {
        SheSays x = of("Ax,Bx,Ax,Bx,Az,Bz,Ax,Bz", "");
        // CUES - x x x x z z x: A's 2 4 (x), 6 (z); B's 1 3 7 (x), 5 (z)
        due("doubtful(0)", x.doubtful(0), 2);
        due("doubtful(1)", x.doubtful(1), 3);
        due("doubtful(2)", x.doubtful(2), 0);
        due("doubtful(7)", x.doubtful(7), 0);
        due("doubtful(8)", x.doubtful(8), -1);
        due("doubtful(-1)", x.doubtful(-1), -1);
        due("reword(0)", x.reword(0), 3);
        due("reword(1)", x.reword(1), 2);
        due("reword(2)", x.reword(2), -1000000);
        due("reword(-1)", x.reword(-1), -1000000);
        x = of("Ax,By,Ay", "");
        due("reword(0) of none", x.reword(0), 0);
        due("reword(1) of none", x.reword(1), -1);
        due("the first is like none", of("Ax,Ax", "").doubtful(0), 0);
    }

    private static void imageAndBack() {
        SheSays x = of("Ax,By,Cz", "y:100");
        due("back without an IMAGE", x.back(), -1);
        x.mark(1, true);
        x.night(1);
        due("image()", x.image(), 1);
        x.mark(0, true);
        x.mark(1, false);
        x.mark(2, true);
        x.night(1);
        due("0 was LOST twice", x.speech(0, 9), 2);
        due("back()", x.back(), 1);
        due("0 was LOST once", x.speech(0, 9), 1);
        due("1 is MARKED again", x.speech(1, 6), 1);
        due("0 is not", x.speech(0, 6), 0);
        due("NIGHTS stay", x.count(5), 2);
        x.mark(2, true);
        x.night(1);
        due("back() again", x.back(), 1);
        x.mark(2, true);
        due("another image()", x.image(), 2);
        x.mark(1, false);
        due("back() to the other", x.back(), 2);
        due("what could be is not kept", x.could(0), 1);
        x.back();
        due("nor lost", x.count(7), 1);
    }

    private static void anotherBook() {
        SheSays x = of("Ax,Bx,Ax,Bx", "y:100");
        take(x, 1, "y:30");
        x.set(1, 0, 1);
        x.set(0, 1, 100);
        x.mark(0, true);
        x.could(2);
        x.night(3);
        x.image();
        due("a new BOOK", take(x, 0, "Bx,Bx,Ax,Bx,Cc"), 5);
        due("LAWS stay", x.count(2), 2);
        due("the LAW that holds stays", x.count(4), 0);
        due("FORGETS by it", x.speech(4, 7), 100);
        due("KINDS stay", x.leap(1), 3);
        due("MARKS are gone", x.count(6), 0);
        due("COULD is gone", x.count(7), 0);
        due("NIGHTS are gone", x.count(5), 0);
        due("the latest is gone", x.latest(0), -1);
        due("LOST is gone", x.speech(0, 9), 0);
        due("the IMAGE is gone", x.back(), -1);
        x.law(1);
        x.mark(2, true);
        due("TAKE stays", x.visits(2, 3), x.visits(1, 3));
    }

    private static void count() {
        SheSays x = of("Ax,By,Cz,Dd;0-0,2-2", "y:1");
        feedText(x, "abc");
        int[] want = {4, 2, 1, 3, 0, 0, 0, 0};
        for (int i = 0; i < want.length; i++) {
            due("count(" + i + ")", x.count(i), want[i]);
        }
        due("count(8)", x.count(8), -1000000);
        due("count(-1)", x.count(-1), -1000000);
        due("NONE", SheSays.NONE, -1);
        due("HIDDEN", SheSays.HIDDEN, -1000000);
    }
}
