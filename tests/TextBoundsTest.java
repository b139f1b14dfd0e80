/** Terms 1 and promises 1 to 5 at their bounds: the TAPE, BOOKS, LAWS, where they have a FAULT, what a LAW is worth. */
public final class TextBoundsTest {
    private static final String BLANK = " ";
    private static final String DIGITS = "0123456789";
    private static final String LETTERS = "aslgcm";
    /** What a SUM can begin with, and what a UNIT can. */
    private static final String SUM = BLANK + DIGITS + LETTERS + "[";
    private static final String UNIT = SUM + "!(";
    private static final String SIGNS = BLANK + "+-*/";

    public static void main(String[] args) {
        aNewObject();
        feed();
        end();
        faultSorts();
        howManySpeeches();
        signsOfSpeeches();
        lengths();
        cuts();
        cutsLeaveTwo();
        blanks();
        whatMayFollowInABook();
        whatMayFollowInALaw();
        textsThatEndTooEarly();
        howManyDigits();
        clauses();
        sixWithinOneAnother();
        valuesAreHeld();
        division();
        comparisons();
        worth();
        text();
        fourLaws();
        Desk.end();
    }

    private static void aNewObject() {
        Desk.sentence("1 No BOOK");
        SheSays x = new SheSays();
        int[] counts = {0, 0, 0, 0, -1, 0, 0, 0};
        for (int what = 0; what < counts.length; what++) {
            Desk.due("count(" + what + ")", x.count(what), counts[what]);
        }
        Desk.due("speech(0, 0)", Desk.speech(x, 0, 0), Desk.THROWN);
        Desk.due("stops()", x.stops(), -1);
        Desk.due("reword(0)", x.reword(0), -1000000);
        Desk.sentence("1 one object has nothing of another one");
        SheSays y = Desk.of("Ax,By", "y:7");
        y.mark(0, true);
        Desk.due("count(1) of the other", x.count(1), 0);
        Desk.due("count(2) of the other", x.count(2), 0);
        Desk.due("count(6) of the other", x.count(6), 0);
    }

    private static void feed() {
        Desk.sentence("2 Twenty bytes more come to the TAPE, of each number the highest first");
        SheSays x = new SheSays();
        Desk.due("feed of 20", x.feed(0x4161312C, 0x42623232, 0x2C436333, 0x2C446434, 0x342C4565), 20);
        Desk.due("text(0)", x.text(0), 5);
        int[][] want = {{0, 0, 1}, {1, 1, 22}, {2, 2, 3}, {3, 3, 44}, {4, 4, 5}};
        for (int s = 0; s < 5; s++) {
            for (int what = 0; what < 3; what++) {
                Desk.due("speech(" + s + ", " + what + ")", x.speech(s, what), want[s][what]);
            }
        }
        Desk.sentence("2 bytes of 0 are left out");
        x = new SheSays();
        Desk.due("feed of none", x.feed(0, 0, 0, 0, 0), 0);
        Desk.due("feed of the lowest byte", x.feed('A', 0, 0, 0, 0), 1);
        Desk.due("feed of the second byte", x.feed(0, 'x' << 8, 0, 0, 0), 2);
        Desk.due("feed of the third byte", x.feed(0, 0, ',' << 16, 0, 0), 3);
        Desk.due("feed of the highest byte", x.feed(0, 0, 0, 'B' << 24, 0), 4);
        Desk.due("feed of the outer ones", x.feed(0, 0, 0, 0, 'y' << 24 | '7'), 6);
        Desk.due("text(0)", x.text(0), 2);
        Desk.due("the LENGTH", x.speech(1, 2), 7);
        Desk.sentence("2 bytes of 1 to 255 are none of 0");
        Desk.due("feed(-1 ..)", x.feed(-1, -1, -1, -1, -1), 20);
        Desk.due("feed(MIN ..)", x.feed(Desk.MIN, Desk.MIN, 0, 0, 0), 22);
        Desk.due("feed(1 ..)", x.feed(1, 1 << 8, 1 << 16, 1 << 24, 0x80), 27);
        Desk.due("feed(MAX ..)", x.feed(Desk.MAX, 0, 0, 0, 0), 31);
        Desk.sentence("2 NONE: more than 160");
        x = new SheSays();
        for (int i = 1; i <= 7; i++) {
            Desk.due("feed of 20 to " + 20 * i, x.feed(-1, -1, -1, -1, -1), 20 * i);
        }
        Desk.due("feed of 20 to 160", x.feed(-1, -1, -1, -1, -1), 160);
        Desk.due("feed of none at 160", x.feed(0, 0, 0, 0, 0), 160);
        Desk.due("feed of one at 160", x.feed(0, 0, 0, 0, 1), -1);
        Desk.due("feed of 20 at 160", x.feed(-1, -1, -1, -1, -1), -1);
        Desk.due("count(3)", x.count(3), 160);
        x.end(159);
        Desk.due("feed of two at 159", x.feed(0x2020, 0, 0, 0, 0), -1);
        Desk.due("feed of one in each of two at 159", x.feed(32, 0, 0, 0, 32), -1);
        Desk.due("count(3)", x.count(3), 159);
        Desk.due("feed of one at 159", x.feed(0, 0, 32, 0, 0), 160);
        x.end(141);
        Desk.due("feed of 20 at 141", x.feed(-1, -1, -1, -1, -1), -1);
        Desk.due("feed of 19 at 141", x.feed(-1, -1, -1, -1, -256), 160);
        Desk.sentence("2 nothing of what is refused comes to the TAPE");
        x = new SheSays();
        Desk.feed(x, Desk.times(155, " ") + "Ax,");
        Desk.due("feed of three at 158", x.feed('C', 'z', '9', 0, 0), -1);
        Desk.due("feed of two at 158", x.feed('B', 'y', 0, 0, 0), 160);
        Desk.due("text(0)", x.text(0), 2);
        Desk.due("the second ACTOR", x.speech(1, 0), 1);
    }

    private static void end() {
        Desk.sentence("3 The TAPE has its first n bytes alone");
        SheSays x = new SheSays();
        Desk.holds("end(0) of none", x.end(0));
        Desk.feed(x, "Ax,By,Cz");
        Desk.holds("end(8) of 8", x.end(8));
        Desk.due("count(3)", x.count(3), 8);
        Desk.due("fault(0)", x.fault(0), -1);
        Desk.holds("end(7) of 8", x.end(7));
        Desk.due("count(3)", x.count(3), 7);
        Desk.due("fault(0)", x.fault(0), 7);
        Desk.holds("end(5) of 7", x.end(5));
        Desk.due("fault(0)", x.fault(0), -1);
        Desk.holds("end(1) of 5", x.end(1));
        Desk.due("fault(0)", x.fault(0), 1);
        Desk.due("what is fed comes behind", Desk.feed(x, "q,Hh"), 5);
        Desk.due("text(0)", x.text(0), 2);
        Desk.due("the first WORD", x.speech(0, 1), 16);
        Desk.feed(x, Desk.times(160, " "));
        Desk.holds("end(160) of 160", x.end(160));
        Desk.holds("end(0) of 160", x.end(0));
        Desk.due("count(3)", x.count(3), 0);
        Desk.sentence("3 False: n");
        Desk.holds("end(1) of none", !x.end(1));
        Desk.holds("end(-1) of none", !x.end(-1));
        Desk.feed(x, "Ax,By");
        int[] out = {6, 7, 160, 161, Desk.MAX, -1, -2, Desk.MIN};
        for (int n : out) {
            Desk.holds("end(" + n + ") of 5", !x.end(n));
            Desk.due("count(3)", x.count(3), 5);
        }
        Desk.due("fault(0)", x.fault(0), -1);
    }

    private static void faultSorts() {
        Desk.sentence("4 -2: no such sort");
        int[] out = {-1, 2, 3, -2, Desk.MIN, Desk.MAX};
        for (int sort : out) {
            Desk.due("fault(" + sort + ") of a BOOK", Desk.fault(sort, "Ax,By"), -2);
            Desk.due("fault(" + sort + ") of none", Desk.fault(sort, ""), -2);
        }
        Desk.sentence("4 as a BOOK (0), a LAW (1); NONE: none");
        Desk.due("fault(0) of a BOOK", Desk.fault(0, "Ax,By"), -1);
        Desk.due("fault(1) of a BOOK", Desk.fault(1, "Ax,By"), 0);
        Desk.due("fault(0) of a LAW", Desk.fault(0, "y:1"), 0);
        Desk.due("fault(1) of a LAW", Desk.fault(1, "y:1"), -1);
        Desk.due("fault(0) of none", Desk.fault(0, ""), 0);
        Desk.due("fault(1) of none", Desk.fault(1, ""), 0);
    }

    private static void isBook(String text) {
        bookFault(text, -1);
    }

    private static void bookFault(String text, int want) {
        Desk.due("fault(0) of <" + text + ">", Desk.fault(0, text), want);
        SheSays x = new SheSays();
        Desk.feed(x, text);
        Desk.holds("text(0) of <" + text + "> is refused just if it has a FAULT", (x.text(0) == -1) == (want != -1));
    }

    private static void howManySpeeches() {
        Desk.sentence("T1 SPEECHES with , between (2 .. 24)");
        isBook("Ax,By");
        bookFault("Ax", 2);
        bookFault("", 0);
        isBook(Desk.book(23, "Ax"));
        isBook(Desk.book(24, "Ax"));
        isBook(Desk.book(24, "Ax99") + ";0-21");
        Desk.due("SPEECHES of 24", Desk.of(Desk.book(24, "Ax"), "").count(1), 24);
        Desk.sentence("T1 the , ahead of a twenty-fifth SPEECH");
        bookFault(Desk.book(25, "Ax"), 71);
        bookFault(Desk.book(24, "Ax") + ",", 71);
        bookFault(Desk.book(24, "Ax") + "  ,Ax", 73);
        bookFault(Desk.book(24, "Ax") + ",;", 71);
        bookFault(Desk.book(24, "Ax7") + ",Ax", 95);
        bookFault(Desk.book(23, "Ax") + ",", 69);
        Desk.sentence("T1 the ; behind one SPEECH alone");
        bookFault("Ax;", 2);
        bookFault("Ax7 ;0-0", 4);
        bookFault("Ax,;", 3);
        bookFault(";", 0);
        bookFault("Ax,By;", 6);
    }

    private static void signsOfSpeeches() {
        Desk.sentence("T1 an ACTOR (A .. H)");
        for (char sign = 'A'; sign <= 'H'; sign++) {
            isBook(sign + "x," + sign + "x");
        }
        for (char sign : new char[] {'@', 'I', 'a', 'h', 'Z', 1, 127, 193, 255}) {
            bookFault(sign + "x,Bx", 0);
            bookFault("Ax," + sign + "x", 3);
        }
        Desk.sentence("T1 the WORD it ends in (a .. z)");
        for (char sign = 'a'; sign <= 'z'; sign++) {
            isBook("A" + sign + ",B" + sign);
        }
        for (char sign : new char[] {'`', '{', 'A', 'Z', '1', ',', 1, 127, 225, 255}) {
            bookFault("A" + sign + ",Bx", 1);
            bookFault("Ax,B" + sign, 4);
        }
    }

    private static void lengthIs(String text, int want) {
        isBook(text);
        Desk.due("the first LENGTH of <" + text + ">", Desk.of(text, "").speech(0, 2), want);
    }

    private static void lengths() {
        Desk.sentence("T1 perhaps LENGTH (1 .. 99; 5 without)");
        lengthIs("Ax1,By", 1);
        lengthIs("Ax01,By", 1);
        lengthIs("Ax9,By", 9);
        lengthIs("Ax10,By", 10);
        lengthIs("Ax98,By", 98);
        lengthIs("Ax99,By", 99);
        lengthIs("Ax,By9", 5);
        Desk.due("the second LENGTH", Desk.of("Ax,By99", "").speech(1, 2), 99);
        Desk.sentence("T1 a number out of bounds is wrong at its last digit");
        bookFault("Ax0,By", 2);
        bookFault("Ax00,By", 3);
        bookFault("Ax,By0", 5);
        bookFault("Ax,By00", 6);
        bookFault("Ax 0 ,By", 3);
        Desk.sentence("T1 a third digit itself, whatever stands ahead of it");
        bookFault("Ax100,By", 4);
        bookFault("Ax999,By", 4);
        bookFault("Ax000,By", 4);
        bookFault("Ax001,By", 4);
        bookFault("Ax,By123456", 7);
        bookFault("Ax,By,Cz;000-0", 11);
        bookFault("Ax,By,Cz;999-0", 11);
        bookFault("Ax,By,Cz;0-000", 13);
        bookFault("Ax,By,Cz;0-999", 13);
        bookFault("Ax,By,Cz;1-002", 13);
    }

    private static void cuts() {
        Desk.sentence("T1 CUTS with , between, one at least");
        bookFault("Ax,By,Cz;", 9);
        bookFault("Ax,By,Cz; ", 10);
        bookFault("Ax,By,Cz;,", 9);
        bookFault("Ax,By,Cz;;", 9);
        isBook("Ax,By,Cz;0-0");
        bookFault("Ax,By,Cz;0-0,", 13);
        bookFault("Ax,By,Cz;0-0;", 12);
        Desk.sentence("T1 counted from 0");
        Desk.due("the first place", Desk.of("Ax,By,Cz;0-0", "").speech(0, 8), 1);
        Desk.due("the last place", Desk.of("Ax,By,Cz;2-2", "").speech(1, 8), 1);
        Desk.due("a place in the middle", Desk.of("Ax,By,Cz;1-1", "").speech(1, 8), 2);
        Desk.sentence("T1 no less than the first");
        isBook("Ax,By,Cz,Dd,Ee;2-2");
        isBook("Ax,By,Cz,Dd,Ee;2-3");
        bookFault("Ax,By,Cz,Dd,Ee;2-1", 17);
        bookFault("Ax,By,Cz,Dd,Ee;2-0", 17);
        bookFault("Ax,By,Cz,Dd,Ee;2-01", 18);
        bookFault(Desk.book(24, "Ax") + ";12-11", 76);
        isBook(Desk.book(24, "Ax") + ";12-12");
        Desk.sentence("T1 below how many there are");
        isBook("Ax,By,Cz,Dd,Ee;4-4");
        bookFault("Ax,By,Cz,Dd,Ee;4-5", 17);
        bookFault("Ax,By,Cz,Dd,Ee;5-5", 15);
        bookFault("Ax,By,Cz,Dd,Ee;05-5", 16);
        bookFault("Ax,By,Cz,Dd,Ee;99-99", 16);
        bookFault("Ax,By,Cz,Dd,Ee;4-6", 17);
        bookFault("Ax,By,Cz,Dd,Ee;4-99", 18);
        isBook(Desk.book(24, "Ax") + ";23-23");
        bookFault(Desk.book(24, "Ax") + ";23-24", 76);
        bookFault(Desk.book(24, "Ax") + ";23-44", 76);
        bookFault(Desk.book(24, "Ax") + ";24-24", 73);
        Desk.sentence("T1 the first greater than the second one of the CUT ahead");
        isBook("Ax,By,Cz,Dd,Ee,Ff;0-1,2-3");
        bookFault("Ax,By,Cz,Dd,Ee,Ff;0-1,1-3", 22);
        bookFault("Ax,By,Cz,Dd,Ee,Ff;0-1,0-3", 22);
        bookFault("Ax,By,Cz,Dd,Ee,Ff;0-1,01-3", 23);
        isBook("Ax,By,Cz,Dd,Ee,Ff;0-1,02-3");
        bookFault("Ax,By,Cz,Dd,Ee,Ff;5-5,5-5", 22);
        bookFault("Ax,By,Cz,Dd,Ee,Ff;0-0,2-2,2-2", 26);
        isBook("Ax,By,Cz,Dd,Ee,Ff;0-0,2-2,3-3");
    }

    private static void cutsLeaveTwo() {
        Desk.sentence("T1 two SPEECHES at least must be left: of CUTS its last digit, if fewer would be");
        isBook("Ax,By,Cz,Dd;1-2");
        isBook("Ax,By,Cz,Dd;0-0,3-3");
        isBook("Ax,By,Cz,Dd;2-3");
        bookFault("Ax,By,Cz,Dd;1-3", 14);
        bookFault("Ax,By,Cz,Dd;0-2", 14);
        bookFault("Ax,By,Cz,Dd;0-3", 14);
        bookFault("Ax,By,Cz,Dd;0-03", 15);
        bookFault("Ax,By,Cz,Dd;0-1,2-2", 18);
        bookFault("Ax,By,Cz,Dd;0-1,3-3", 18);
        bookFault("Ax,By,Cz,Dd;0-0,1-1,2-2", 22);
        bookFault("Ax,By;0-0", 8);
        bookFault("Ax,By;0-1", 8);
        bookFault("Ax,By;1-1", 8);
        isBook("Ax,By,Cz;1-1");
        bookFault("Ax,By,Cz;1-2", 11);
        isBook(Desk.book(24, "Ax") + ";1-22");
        bookFault(Desk.book(24, "Ax") + ";1-23", 75);
        bookFault(Desk.book(24, "Ax") + ";0-22", 75);
        Desk.due("SPEECHES left of 24", Desk.of(Desk.book(24, "Ax") + ";1-22", "").count(1), 2);
        Desk.due("SPEECHES of the BOOK", Desk.of(Desk.book(24, "Ax") + ";1-22", "").count(0), 24);
    }

    private static void blanks() {
        Desk.sentence("T1 Blanks (32) may stand between all signs of both");
        isBook(" A x 9 , B y ; 0 - 0 ".replace(";", ", C z ; "));
        Desk.due("a LAW with blanks", Desk.fault(1, " y : ! ( a = 1 ) & [ s ] < 2 | l > 3 ? g + c * 4 / m - 5 ; y : 6 "), -1);
        isBook(Desk.times(155, " ") + "Ax,By");
        isBook("Ax,By" + Desk.times(155, " "));
        isBook("Ax," + Desk.times(155, " ") + "By");
        bookFault(Desk.times(160, " "), 160);
        Desk.due("a LAW with many blanks", Desk.fault(1, "y:" + Desk.times(157, " ") + "1"), -1);
        Desk.due("a LAW of blanks", Desk.fault(1, Desk.times(160, " ")), 160);
        Desk.sentence("T1 not within numbers");
        bookFault("Ax1 2,By", 4);
        bookFault("Ax1 ,By1  2", 10);
        bookFault(Desk.book(12, "Ax") + ";1 1-11", 38);
        bookFault(Desk.book(12, "Ax") + ";1-1 1", 40);
        Desk.due("a LAW's number with a blank", Desk.fault(1, "y:1 2"), 4);
        Desk.due("a LAW's number of four with a blank", Desk.fault(1, "y:123 4"), 6);
        Desk.sentence("T1 no other sign is a blank");
        for (char sign : new char[] {9, 10, 13, 31, 33, 160}) {
            bookFault(sign + "Ax,By", 0);
            bookFault("Ax," + sign + "By", 3);
            bookFault("Ax,By" + sign, 5);
            Desk.due("a LAW with sign " + (int) sign, Desk.fault(1, "y:1" + sign), 3);
        }
    }

    /** Just these signs can go on behind this text: with all others it has a FAULT there. */
    private static void goesOn(int sort, String text, String signs) {
        for (char sign = 1; sign < 256; sign++) {
            boolean canGoOn = Desk.fault(sort, text + sign) != text.length();
            // a text that ends too early behind the sign has its FAULT one further
            Desk.holds("sign " + (int) sign + " behind <" + text + ">", canGoOn == signs.indexOf(sign) >= 0);
        }
    }

    private static void whatMayFollowInABook() {
        Desk.sentence("T1 FAULT of a BOOK: the first byte at which no such TEXT can go on");
        goesOn(0, "", BLANK + "ABCDEFGH");
        goesOn(0, "A", BLANK + "abcdefghijklmnopqrstuvwxyz");
        goesOn(0, "Ax", BLANK + "123456789,");
        goesOn(0, "Ax1", BLANK + "0123456789,");
        goesOn(0, "Ax12", BLANK + ",");
        goesOn(0, "Ax,", BLANK + "ABCDEFGH");
        goesOn(0, "Ax,By", BLANK + "123456789,;");
        goesOn(0, "Ax,By7", BLANK + "0123456789,;");
        goesOn(0, "Ax,By77", BLANK + ",;");
        goesOn(0, "Ax,By,Cz;", BLANK + "012");
        goesOn(0, "Ax,By,Cz;0", BLANK + "012-");
        goesOn(0, "Ax,By,Cz;1", BLANK + "-");
        goesOn(0, "Ax,By,Cz;01", BLANK + "-");
        goesOn(0, "Ax,By,Cz;0-", BLANK + "0");
        goesOn(0, "Ax,By,Cz;1-", BLANK + "1");
        goesOn(0, "Ax,By,Cz;0-0", BLANK + "0,");
        goesOn(0, "Ax,By,Cz;1-1", BLANK + ",");
        goesOn(0, "Ax,By,Cz,Dd,Ee;1-1,", BLANK + "234");
        goesOn(0, "Ax,By,Cz,Dd,Ee;1-1,2-", BLANK + "23");
        goesOn(0, "Ax,By,Cz,Dd,Ee;1-1,2", BLANK + "-");
        goesOn(0, Desk.book(24, "Ax"), BLANK + "123456789;");
        goesOn(0, Desk.book(24, "Ax") + ";1-1", BLANK + "0123456789,");
        goesOn(0, Desk.book(24, "Ax") + ";1-2", BLANK + "012,");
        goesOn(0, Desk.book(24, "Ax") + ";1-1,2", BLANK + "0123-");
    }

    private static void whatMayFollowInALaw() {
        Desk.sentence("T1 FAULT of a LAW: the first byte at which no such TEXT can go on");
        goesOn(1, "", BLANK + "y");
        goesOn(1, "y", BLANK + ":");
        goesOn(1, "y:", UNIT);
        goesOn(1, "y:1", SIGNS + DIGITS + "=<>;");
        goesOn(1, "y:123", SIGNS + DIGITS + "=<>;");
        goesOn(1, "y:1234", SIGNS + "=<>;");
        goesOn(1, "y:a", SIGNS + "=<>;");
        goesOn(1, "y:1+", SUM);
        goesOn(1, "y:1*", SUM);
        goesOn(1, "y:[", SUM);
        goesOn(1, "y:[a", SIGNS + "]");
        goesOn(1, "y:[a]", SIGNS + "=<>;");
        goesOn(1, "y:[a+[s", SIGNS + "]");
        goesOn(1, "y:a=", SUM);
        goesOn(1, "y:a=s", SIGNS + "&|?");
        goesOn(1, "y:a=s&", UNIT);
        goesOn(1, "y:a=s|", UNIT);
        goesOn(1, "y:a=s&s", SIGNS + "=<>");
        goesOn(1, "y:a=s?", SUM);
        goesOn(1, "y:a=s?l", SIGNS + ";");
        goesOn(1, "y:a;", BLANK + "y");
        goesOn(1, "y:!", UNIT);
        goesOn(1, "y:!a", SIGNS + "=<>");
        goesOn(1, "y:!a=s", SIGNS + "&|?");
        goesOn(1, "y:(", UNIT);
        goesOn(1, "y:(a", SIGNS + "=<>");
        goesOn(1, "y:(a<s", SIGNS + "&|)");
        goesOn(1, "y:(a<s)", BLANK + "&|?");
        goesOn(1, "y:((a>s)", BLANK + "&|)");
        goesOn(1, "y:!(a>s)", BLANK + "&|?");
        Desk.sentence("T1 a CLAUSE that goes on with ! or ( behind its : has a CONDITION");
        Desk.due("fault(1) of a SUM in (", Desk.fault(1, "y:(1)"), 4);
        Desk.due("fault(1) of a SUM behind !", Desk.fault(1, "y:!1"), 4);
        Desk.due("fault(1) without ?", Desk.fault(1, "y:(1=1)"), 7);
        Desk.due("fault(1) without ? behind !", Desk.fault(1, "y:!1=1;y:2"), 6);
        Desk.due("fault(1) of a later CLAUSE", Desk.fault(1, "y:1;y:(1=1);"), 11);
    }

    private static void endsTooEarly(int sort, String text, int... whole) {
        String isWhole = "";
        for (int length : whole) {
            isWhole += " " + length + " ";
        }
        for (int n = 0; n <= text.length(); n++) {
            String ahead = text.substring(0, n);
            int want = isWhole.contains(" " + n + " ") ? -1 : n;
            Desk.due("fault(" + sort + ") of <" + ahead + ">", Desk.fault(sort, ahead), want);
            Desk.due("fault(" + sort + ") of <" + ahead + "~>", Desk.fault(sort, ahead + "~"), n);
        }
    }

    private static void textsThatEndTooEarly() {
        Desk.sentence("T1 the length, if it ends too early");
        endsTooEarly(0, "Ax,By12,Cz,Dd;1-1,3-3", 5, 6, 7, 10, 13, 17, 21);
        endsTooEarly(0, " A x 1 , B y  ; ", 12, 13, 14);
        endsTooEarly(1, "y:!(a=1|s<23)&[l]>4?5+g*c/6;y:m-7", 21, 23, 25, 27, 31, 33);
        endsTooEarly(1, " y : a = 1 ? 2 ", 6, 7, 14, 15);
    }

    private static void howManyDigits() {
        Desk.sentence("T1 a number (1 to 4 digits)");
        for (String number : new String[] {"0", "9", "00", "99", "000", "999", "0000", "0001", "9999"}) {
            Desk.due("fault(1) of y:" + number, Desk.fault(1, "y:" + number), -1);
        }
        Desk.due("WORTH of 0042", Desk.of("Ax,By", "y:0042").speech(0, 7), 42);
        Desk.due("fault(1) of no digit", Desk.fault(1, "y:;"), 2);
        Desk.sentence("T1 a fifth one in a LAW itself, whatever stands ahead of it");
        for (String number : new String[] {"00000", "00001", "10000", "99999", "999999999999999999999"}) {
            Desk.due("fault(1) of y:" + number, Desk.fault(1, "y:" + number), 6);
            Desk.due("fault(1) of y:a=" + number, Desk.fault(1, "y:a=" + number + "?1"), 8);
        }
    }

    private static void clauses() {
        Desk.sentence("T1 CLAUSES with ; between, one at least");
        Desk.due("fault(1) of none", Desk.fault(1, ""), 0);
        Desk.due("fault(1) of one", Desk.fault(1, "y:1"), -1);
        Desk.due("fault(1) of one and ;", Desk.fault(1, "y:1;"), 4);
        Desk.due("fault(1) of two", Desk.fault(1, "y:1;y:2"), -1);
        String forty = Desk.times(39, "y:1;") + "y:2";
        Desk.due("fault(1) of forty", Desk.fault(1, forty), -1);
        Desk.due("fault(1) of forty and ;", Desk.fault(1, forty + ";"), 160);
        Desk.due("fault(1) of forty but a sign", Desk.fault(1, Desk.times(39, "y:1;") + "y:"), 158);
    }

    private static void sixWithinOneAnother() {
        Desk.sentence("T1 at most six of ( [ ! within one another");
        for (int n = 1; n <= 6; n++) {
            law(Desk.times(n, "(") + "1=1" + Desk.times(n, ")") + "?7", -1);
            law(Desk.times(n, "!") + "1=1?7", -1);
            law(Desk.times(n, "[") + "7" + Desk.times(n, "]"), -1);
        }
        String six = "[[[[[[1]]]]]]";
        law(six + "+" + six + "*" + six, -1);
        law("!!!!!!1=1&!!!!!!" + "1=1|((((((1=1))))))&" + six + "=" + six + "?" + six, -1);
        law("!(!(!(1=1)))?7", -1);
        law("!([([1", 5);
        law("(!([[[1]]]=1))?7", -1);
        law("!(1=1&(1=1&(1=1&(1=1&!1=1))))?7", -1);
        law("[1+[2+[3+[4+[5+[6]]]]]]", -1);
        Desk.sentence("T1 a seventh of ( [ !");
        law(Desk.times(7, "(") + "1=1" + Desk.times(7, ")") + "?7", 8);
        law(Desk.times(7, "!") + "1=1?7", 8);
        law(Desk.times(7, "[") + "7" + Desk.times(7, "]"), 8);
        law("!!!!!!(1=1)?7", 8);
        law("!!!!!![1]=1?7", 8);
        law("((((((!1=1))))))?7", 8);
        law("(((((([1]=1))))))?7", 8);
        law("((((((1=[1]))))))?7", 10);
        law("!(!(!(1=1&[1]=1)))?7", 12);
        law("(!([[[[1]]]]=1))?7", 8);
        law("1=1?" + Desk.times(7, "[") + "7", 12);
        law("(((((([", 8);
        law("((((((", 8);
        law("[[[[[[1]]]]]]+[[[[[[[", 22);
        goesOn(1, "y:!!!!!!", BLANK + DIGITS + LETTERS);
        goesOn(1, "y:((((((", BLANK + DIGITS + LETTERS);
        goesOn(1, "y:[[[[[[", BLANK + DIGITS + LETTERS);
        goesOn(1, "y:!!!!!!a=", BLANK + DIGITS + LETTERS);
        goesOn(1, "y:((((((a=1&", BLANK + DIGITS + LETTERS);
        goesOn(1, "y:!!!!!", UNIT);
        goesOn(1, "y:(((((", UNIT);
        goesOn(1, "y:[[[[[", SUM);
        goesOn(1, "y:((((((a=1)", BLANK + "&|)");
        goesOn(1, "y:((((((a=1))&", UNIT);
    }

    private static void law(String clause, int want) {
        Desk.due("fault(1) of y:" + clause, Desk.fault(1, "y:" + clause), want);
    }

    /** FORGETS of speech 0 (a 0, s 0, l 5, g 0, c 0, m 0) by a LAW with this CONDITION. */
    private static void is(String condition) {
        Desk.due(condition, Desk.of("Ax,By", "y:" + condition + "?1;y:2").speech(0, 7), 1);
    }

    private static void isNot(String condition) {
        Desk.due(condition, Desk.of("Ax,By", "y:" + condition + "?1;y:2").speech(0, 7), 2);
    }

    private static void valuesAreHeld() {
        String most = "9999*100+100";
        String least = "0-9999*100-100";
        Desk.sentence("T1 behind each sign numbers are within .. 1,000,000");
        is("1000*1000=" + most);
        is("999*1001+1=" + most);
        is("999*1001<" + most);
        is("1000*1000-1=9999*100+99");
        is("1000*1000+1=" + most);
        is("1000*1000-[0-1]=" + most);
        is("1000*1001=" + most);
        is("1000*1000+9999=" + most);
        is("9999*9999=" + most);
        is("1000*1000+1-1=9999*100+99");
        is("9999*9999/1000=1000");
        is("1000*1000+[1000*1000]=" + most);
        is("1000*1000-[0-1000*1000]=" + most);
        is("1000*1000*[1000*1000]=" + most);
        is("[0-1000*1000]*[0-1000*1000]=" + most);
        is("[0-1000]*[0-1001]=" + most);
        is("1000*1000/1=" + most);
        is("[0-1000*1000]/[0-1]=" + most);
        Desk.sentence("T1 behind each sign numbers are within -1,000,000 ..");
        is("0-1000*1000=" + least);
        is("[0-999]*1001-1=" + least);
        is("[0-999]*1001>" + least);
        is("0-1000*1000-1=" + least);
        is("[0-1000*1000]+[0-1]=" + least);
        is("[0-1000]*1001=" + least);
        is("[0-9999]*9999=" + least);
        is("0-1000*1000-1+1=0-9999*100-99");
        is("[0-1000*1000]-[1000*1000]=" + least);
        is("[0-1000*1000]+[0-1000*1000]=" + least);
        is("[0-1000*1000]*[1000*1000]=" + least);
        is("1000*1000*[0-1000*1000]=" + least);
        is("[0-1000*1000]/1=" + least);
        is("1000*1000/[0-1]=" + least);
    }

    private static void division() {
        Desk.sentence("T1 / cuts towards 0");
        is("7/2=3");
        is("[0-7]/2=0-3");
        is("7/[0-2]=0-3");
        is("[0-7]/[0-2]=3");
        is("1/2=0");
        is("[0-1]/2=0");
        is("2/2=1");
        is("[0-2]/2=0-1");
        is("1999/2*2=1998");
        is("9999/1=9999");
        Desk.sentence("T1 / by 0 gives 0");
        is("1/0=0");
        is("[0-1]/0=0");
        is("0/0=0");
        is("1000*1000/0=0");
        is("[0-1000*1000]/[1-1]=0");
        is("7/a+1=1");
        is("7+7/s*7=7");
    }

    private static void comparisons() {
        Desk.sentence("T1 SUM, one of = < >, SUM");
        is("l=5");
        isNot("l=4");
        isNot("l=6");
        is("l<6");
        isNot("l<5");
        isNot("l<4");
        is("l>4");
        isNot("l>5");
        isNot("l>6");
        is("0-1<0");
        isNot("0-1>0");
        isNot("0-1=1");
        Desk.sentence("T1 TRUTHS with | between, UNITS with & between, ! UNIT, ( CONDITION )");
        is("1=1&1=1");
        isNot("1=1&1=2");
        isNot("1=2&1=1");
        isNot("1=2&1=2");
        is("1=1|1=1");
        is("1=1|1=2");
        is("1=2|1=1");
        isNot("1=2|1=2");
        is("1=1|1=1&1=2");
        isNot("(1=1|1=1)&1=2");
        is("1=2&1=2|1=1");
        isNot("1=2&(1=2|1=1)");
        isNot("!1=1");
        is("!1=2");
        is("!1=1|1=1");
        isNot("!(1=1|1=1)");
        isNot("!1=2&1=2");
        is("!(1=2&1=2)");
        is("!!!!!!1=1");
        isNot("!!!!!1=1");
        is("l=5&l<6");
        is("l<6&l>4");
        is("l>4&l=5");
        is("!l=4&l=5");
        is("!l=4&l<6");
        is("(l=5)&!l<5");
        isNot("l=5&l<5");
        isNot("!l=5&l<6");
        Desk.sentence("T1 TERMS with + or - between, ATOMS with * or / between, [ SUM ]");
        is("2+3*4=14");
        is("[2+3]*4=20");
        is("20-5-3=12");
        is("20-[5-3]=18");
        is("20-5+3=18");
        is("40/4/2=5");
        is("40/[4/2]=20");
        is("40/4*2=20");
        is("2*3-8/4=4");
    }

    private static void worth() {
        Desk.sentence("T1 the SUM of the first CLAUSE whose CONDITION holds (or has none)");
        forgets("y:s=0?1;y:s=0?2;y:3", 0, 1);
        forgets("y:s=1?1;y:s=0?2;y:3", 0, 2);
        forgets("y:s=1?1;y:s=2?2;y:3", 0, 3);
        forgets("y:4;y:s=0?5", 0, 4);
        forgets(Desk.times(19, "y:0=1?1;") + "y:42", 0, 42);
        forgets("y:" + Desk.times(78, "1+") + "22", 0, 100);
        forgets("y:" + Desk.times(78, "1+") + "2", 0, 80);
        forgets("y:[[[[[[7]]]]]]", 0, 7);
        forgets("y:1+2*[1+2*[1+2*[1+2*[1+2*[1+2*1]]]]]-100", 0, 27);
        Desk.sentence("T1 0 without");
        forgets("y:s=1?9", 0, 0);
        forgets("y:s=1?9", 1, 9);
        forgets("y:s=1?9;y:s=2?9;y:1=2?9", 0, 0);
        Desk.sentence("T1 a shorter LAW has nothing of a longer one told ahead of it");
        SheSays two = Desk.of("Ax,By", "y:1=2?3;y:1=2?4;y:1=2?5;y:6;y:7;y:8");
        two.law(Desk.take(two, 1, "y:1=2?9"));
        Desk.due("FORGETS by the shorter one", two.speech(0, 7), 0);
        Desk.feed(two, "y:s=0?2");
        two.fault(1);
        Desk.due("FORGETS behind a FAULT that was asked", two.speech(0, 7), 0);
        two.law(0);
        Desk.due("FORGETS by the longer one", two.speech(0, 7), 6);
        Desk.sentence("T2 FORGETS held within 0 .. 100");
        forgets("y:0", 0, 0);
        forgets("y:0-1", 0, 0);
        forgets("y:[0-1000]*1000", 0, 0);
        forgets("y:1", 0, 1);
        forgets("y:99", 0, 99);
        forgets("y:100", 0, 100);
        forgets("y:101", 0, 100);
        forgets("y:1000*1000", 0, 100);
        Desk.sentence("T2 none at first: 0");
        SheSays x = Desk.of("Ax,By", "");
        Desk.due("FORGETS without a LAW", x.speech(0, 7), 0);
        x.mark(1, true);
        Desk.due("FORGETS without a LAW, MARKED", x.speech(1, 7), 0);
        Desk.take(x, 1, "y:50");
        Desk.due("FORGETS with a LAW that does not hold", x.speech(0, 7), 0);
    }

    private static void forgets(String law, int speech, int want) {
        Desk.due("FORGETS of " + speech + " by " + law, Desk.of("Ax,By", law).speech(speech, 7), want);
    }

    private static void text() {
        Desk.sentence("5 The TAPE (empty then; if refused it stays)");
        SheSays x = new SheSays();
        Desk.feed(x, "Ax,By,Cz");
        Desk.due("text(0)", x.text(0), 3);
        Desk.due("count(3)", x.count(3), 0);
        Desk.due("fault(0)", x.fault(0), 0);
        Desk.due("text(0) of an empty TAPE", x.text(0), -1);
        Desk.due("text(1) of an empty TAPE", x.text(1), -1);
        Desk.due("the BOOK stays", x.count(1), 3);
        Desk.feed(x, "y:7");
        Desk.due("text(1)", x.text(1), 0);
        Desk.due("count(3)", x.count(3), 0);
        Desk.feed(x, "Ax,B");
        Desk.due("text(0) with a FAULT", x.text(0), -1);
        Desk.due("text(1) with a FAULT", x.text(1), -1);
        Desk.due("count(3)", x.count(3), 4);
        Desk.feed(x, "y");
        Desk.due("text(0) of what stayed", x.text(0), 2);
        Desk.sentence("5 how many SPEECHES the PLAY has");
        Desk.due("text(0) of 24", Desk.take(x, 0, Desk.book(24, "Ax")), 24);
        Desk.due("text(0) of 24 less 22", Desk.take(x, 0, Desk.book(24, "Ax") + ";0-21"), 2);
        Desk.due("text(0) of 2", Desk.take(x, 0, "Ax,By"), 2);
        Desk.sentence("5 NONE: no such sort");
        for (int sort : new int[] {-1, 2, Desk.MIN, Desk.MAX}) {
            Desk.due("text(" + sort + ") of a BOOK", Desk.take(x, sort, "Ax,By,Cz"), -1);
            Desk.due("text(" + sort + ") of a LAW", Desk.take(x, sort, "y:1"), -1);
            Desk.due("count(3)", x.count(3), 3);
        }
        Desk.sentence("5 all of 160 bytes");
        String book = Desk.book(24, "Hz99") + ";0-0,2-2,4-4,6-6,8-8,10-10,12-12,14-15";
        Desk.due("text(0) of 160", Desk.take(x, 0, book + Desk.times(160 - book.length(), " ")), 15);
        Desk.due("the last place", x.speech(14, 8), 23);
        Desk.due("text(1) of 160", Desk.take(x, 1, "y:" + Desk.times(78, "1+") + "22"), 1);
    }

    private static void fourLaws() {
        Desk.sentence("T1 LAWS (4 at most); 5 its number; NONE: there are four LAWS");
        SheSays x = Desk.of("Ax,By", "");
        for (int law = 0; law < 4; law++) {
            Desk.due("LAW " + law, Desk.take(x, 1, "y:1" + law), law);
            Desk.due("count(2)", x.count(2), law + 1);
        }
        Desk.due("a fifth LAW", Desk.take(x, 1, "y:19"), -1);
        Desk.due("fault(1) of the fifth", x.fault(1), -1);
        Desk.due("count(3)", x.count(3), 4);
        Desk.due("count(2)", x.count(2), 4);
        for (int law = 0; law < 4; law++) {
            x.law(law);
            Desk.due("FORGETS by LAW " + law, x.speech(0, 7), 10 + law);
        }
        Desk.due("a BOOK all the same", Desk.take(x, 0, "Ax,By,Cz"), 3);
    }
}
