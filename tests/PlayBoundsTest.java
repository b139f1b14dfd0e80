import java.math.BigInteger;

/** Terms 2 and promises 6 to 15 at their bounds: SPEECHES, LAWS that hold, LEAPS, EVENINGS, NIGHTS, LEARN. */
public final class PlayBoundsTest {
    /** 24 SPEECHES: the longest PLAY. */
    private static final String FULL = Desk.book(24, "Ax", "Bx", "Cx", "Dx", "Ex", "Fx", "Gx", "Hx");
    /** 2 is LOST and LEAPS to 1 as often as it is come to. */
    private static final String LOOPED = "Ax,Bx,Bx";

    public static void main(String[] args) {
        speech();
        cuesAndGaps();
        like();
        law();
        set();
        mark();
        leap();
        evening();
        eveningLosses();
        ends();
        drawsGoRound();
        drawsBelow();
        night();
        atMost200();
        latest();
        keptOfNights();
        learn();
        Desk.end();
    }

    private static void speech() {
        Desk.sentence("6 NoSuchElementException: no such ones (SPEECHES)");
        SheSays x = Desk.of("Aa,Hz99,Ax,By1;2-2", "");
        int[] out = {-1, 3, 4, 24, 32, 64, Desk.MAX, -32, Desk.MIN};
        for (int what = 0; what <= 9; what++) {
            for (int s : out) {
                Desk.due("speech(" + s + ", " + what + ") of 3", Desk.speech(x, s, what), Desk.THROWN);
            }
            Desk.holds("speech(0, " + what + ") of 3", Desk.speech(x, 0, what) != Desk.THROWN);
            Desk.holds("speech(2, " + what + ") of 3", Desk.speech(x, 2, what) != Desk.THROWN);
            Desk.due("speech(0, " + what + ") of none", Desk.speech(new SheSays(), 0, what), Desk.THROWN);
            Desk.due("speech(24, " + what + ") of 24", Desk.speech(Desk.of(FULL, ""), 24, what), Desk.THROWN);
            Desk.holds("speech(23, " + what + ") of 24", Desk.speech(Desk.of(FULL, ""), 23, what) != Desk.THROWN);
        }
        Desk.sentence("6 NoSuchElementException: no such ones (what)");
        for (int what : new int[] {-1, 10, 11, Desk.MAX, Desk.MIN}) {
            Desk.due("speech(0, " + what + ")", Desk.speech(x, 0, what), Desk.THROWN);
            Desk.due("speech(2, " + what + ")", Desk.speech(x, 2, what), Desk.THROWN);
        }
        Desk.sentence("6 0 its ACTOR, 1 its WORD (a 0), 2 LENGTH, 8 its place in the BOOK");
        int[][] want = {{0, 0, 5, 0}, {7, 25, 99, 1}, {1, 24, 1, 3}};
        for (int s = 0; s < 3; s++) {
            Desk.due("ACTOR of " + s, x.speech(s, 0), want[s][0]);
            Desk.due("WORD of " + s, x.speech(s, 1), want[s][1]);
            Desk.due("LENGTH of " + s, x.speech(s, 2), want[s][2]);
            Desk.due("place of " + s, x.speech(s, 8), want[s][3]);
        }
        x = Desk.of(FULL + ";0-0,2-21", "");
        Desk.due("place of the first of two", x.speech(0, 8), 1);
        Desk.due("place of the second of three", x.speech(1, 8), 22);
        Desk.due("place of the third of three", x.speech(2, 8), 23);
        Desk.sentence("6 6 whether it is MARKED (1, 0), 9 how often it was LOST");
        x = Desk.of("Ax,By", "y:100");
        Desk.due("MARKED at first", x.speech(0, 6), 0);
        Desk.due("LOST at first", x.speech(0, 9), 0);
        x.mark(0, true);
        x.night(0);
        Desk.due("MARKED", x.speech(0, 6), 1);
        Desk.due("LOST once", x.speech(0, 9), 1);
        Desk.due("MARKED of the other", x.speech(1, 6), 0);
    }

    private static void speechesAre(SheSays x, int what, int... want) {
        for (int s = 0; s < want.length; s++) {
            Desk.due("speech(" + s + ", " + what + ")", Desk.speech(x, s, what), want[s]);
        }
        Desk.due("speech(" + want.length + ", " + what + ")", Desk.speech(x, want.length, what), Desk.THROWN);
    }

    private static void cuesAndGaps() {
        Desk.sentence("T2 CUE: the WORD of the one ahead of it in the PLAY (the first has none); 6 NONE: the first");
        speechesAre(Desk.of("Aa,Bb,Cz,Dd", ""), 3, -1, 0, 1, 25);
        speechesAre(Desk.of("Aa,Bb,Cz,Dd;0-0", ""), 3, -1, 1, 25);
        speechesAre(Desk.of("Aa,Bb,Cz,Dd;1-2", ""), 3, -1, 0);
        speechesAre(Desk.of("Aa,Bb,Cz,Dd;3-3", ""), 3, -1, 0, 1);
        Desk.sentence("T2 GAP: how many SPEECHES of the PLAY lie between it and the ACTOR's one ahead");
        speechesAre(Desk.of("Ax,Ax,Bx,Ax,Bx,Cx,Cx,Ax", ""), 4, 0, 0, 2, 1, 1, 5, 0, 3);
        speechesAre(Desk.of("Ax,Ax,Bx,Ax,Bx,Cx,Cx,Ax;2-3,5-5", ""), 4, 0, 0, 2, 3, 2);
        Desk.due("GAP of 23", Desk.of("Ax," + Desk.book(22, "Bx") + ",Ax", "").speech(23, 4), 22);
        Desk.sentence("T2 GAP: its number, if there is none");
        Desk.due("GAP of the first", Desk.of("Bx,Ax", "").speech(0, 4), 0);
        Desk.due("GAP of the second", Desk.of("Bx,Ax", "").speech(1, 4), 1);
        Desk.due("GAP of the last of 24", Desk.of(Desk.book(23, "Ax") + ",Bx", "").speech(23, 4), 23);
        Desk.due("GAP if the one ahead is CUT", Desk.of("Cx,Ax,Ax;1-1", "").speech(1, 4), 1);
    }

    private static void like() {
        Desk.sentence("T2 LIKE: other SPEECHES of its ACTOR with the same CUE");
        speechesAre(Desk.of("Cx,Ax,Bx,Ax,By,Ax,Ax,Bx,Ax", ""), 5, 0, 3, 2, 3, 2, 0, 3, 2, 3);
        speechesAre(Desk.of("Cx,Ax,By", ""), 5, 0, 0, 0);
        Desk.due("LIKE of 23", Desk.of(Desk.book(24, "Ax"), "").speech(23, 5), 22);
        Desk.due("LIKE with the one between CUT", Desk.of("Cx,Ax,By,Ax;2-2", "").speech(2, 5), 1);
        Desk.sentence("T2 the first has none, unlike any");
        speechesAre(Desk.of("Ax,Ax", ""), 5, 0, 0);
        speechesAre(Desk.of("Ax,Ax,Ax", ""), 5, 0, 1, 1);
        speechesAre(Desk.of("Ax,Ax,Ax,Ax;0-0", ""), 5, 0, 1, 1);
        Desk.sentence("T2 letters: a the ACTOR (A 0), s the SPEECH, l its LENGTH, g its GAP, c how many are LIKE");
        String book = "Ax,Bx,Ax9,Hz,Ax99,Bx,Ax";
        SheSays y = Desk.of(book, "");
        int[][] ask = {{'a', 0}, {'l', 2}, {'g', 4}, {'c', 5}};
        for (int[] one : ask) {
            SheSays x = Desk.of(book, "y:" + (char) one[0]);
            for (int s = 0; s < 7; s++) {
                Desk.due((char) one[0] + " of " + s, x.speech(s, 7), y.speech(s, one[1]));
            }
        }
        speechesAre(Desk.of(book, "y:s"), 7, 0, 1, 2, 3, 4, 5, 6);
        speechesAre(Desk.of(book + ";0-1", "y:s"), 7, 0, 1, 2, 3, 4);
        Desk.sentence("T2 m whether it is MARKED (1, 0)");
        SheSays x = Desk.of("Ax,By", "y:m=1?60;y:20+m");
        speechesAre(x, 7, 20, 20);
        x.mark(1, true);
        speechesAre(x, 7, 20, 60);
        x.mark(1, false);
        speechesAre(x, 7, 20, 20);
    }

    private static void law() {
        Desk.sentence("7 The LAW that holds (NONE: none). False: no such one");
        SheSays x = new SheSays();
        Desk.holds("law(-1) of none", x.law(-1));
        Desk.holds("law(0) of none", !x.law(0));
        Desk.holds("law(-2) of none", !x.law(-2));
        for (int n = 1; n <= 4; n++) {
            Desk.take(x, 1, "y:" + n);
            Desk.due("no LAW holds by being told", x.count(4), -1);
            Desk.holds("law(" + (n - 1) + ") of " + n, x.law(n - 1));
            Desk.due("count(4)", x.count(4), n - 1);
            for (int law : new int[] {n, n + 1, 5, Desk.MAX, -2, Desk.MIN}) {
                Desk.holds("law(" + law + ") of " + n, !x.law(law));
                Desk.due("count(4)", x.count(4), n - 1);
            }
            Desk.holds("law(0) of " + n, x.law(0));
            Desk.holds("law(-1) of " + n, x.law(-1));
            Desk.due("count(4)", x.count(4), -1);
        }
        Desk.sentence("7 it holds at once, and for a BOOK that comes behind");
        Desk.holds("law(2) ahead of a BOOK", x.law(2));
        Desk.take(x, 0, "Ax,By");
        Desk.due("FORGETS by LAW 2", x.speech(1, 7), 3);
        x.law(3);
        Desk.due("FORGETS by LAW 3", x.speech(1, 7), 4);
        Desk.take(x, 0, "Cx,By,Ax");
        Desk.due("FORGETS of another BOOK", x.speech(2, 7), 4);
        x.law(-1);
        Desk.due("FORGETS by none", x.speech(1, 7), 0);
    }

    private static void set() {
        Desk.sentence("8 KIND (what 0) of an ACTOR (0 .. 7), False: out of bounds");
        for (int actor = 0; actor <= 7; actor++) {
            // the ACTOR's LIKE ones are 1, 3, 4; another one says the rest
            char a = (char) ('A' + actor);
            SheSays x = Desk.of("Ax," + a + "y," + (actor == 0 ? "B" : "A") + "x," + a + "x," + a + "x", "");
            Desk.due("leap(3) at first", x.leap(3), -1);
            int[] leaps = {-1, 3, -1, 3};
            int[] ahead = {-1, -1, 3, 3};
            for (int kind = 3; kind >= 0; kind--) {
                Desk.holds("set(" + actor + ", 0, " + kind + ")", x.set(actor, 0, kind));
                Desk.holds("set(" + actor + ", 0, " + kind + ") again", x.set(actor, 0, kind));
                Desk.due("leap(1) by KIND " + kind, x.leap(1), leaps[kind]);
                Desk.due("leap(4) by KIND " + kind, x.leap(4), ahead[kind]);
                for (int v : new int[] {-1, 4, 5, 100, Desk.MAX, Desk.MIN}) {
                    Desk.holds("set(" + actor + ", 0, " + v + ")", !x.set(actor, 0, v));
                    Desk.due("leap(1)", x.leap(1), leaps[kind]);
                    Desk.due("leap(4)", x.leap(4), ahead[kind]);
                }
            }
        }
        Desk.sentence("8 TAKE (1) of an ACTOR (0 .. 7), False: out of bounds; T2 (0 .. 100; 50)");
        for (int actor = 0; actor <= 7; actor++) {
            char a = (char) ('A' + actor);
            SheSays x = Desk.of(a + "x," + a + "y", "y:100");
            x.mark(0, true);
            Desk.due("TAKE at first", x.visits(0, 1), 500000000L);
            for (int take : new int[] {0, 1, 99, 100}) {
                Desk.holds("set(" + actor + ", 1, " + take + ")", x.set(actor, 1, take));
                Desk.due("TAKE " + take, x.visits(0, 1), take * 10000000L);
                for (int v : new int[] {-1, 101, 1000, Desk.MAX, Desk.MIN}) {
                    Desk.holds("set(" + actor + ", 1, " + v + ")", !x.set(actor, 1, v));
                    Desk.due("TAKE", x.visits(0, 1), take * 10000000L);
                }
            }
        }
        Desk.sentence("8 False: no such ones");
        SheSays x = new SheSays();
        for (int actor : new int[] {-1, 8, 9, 32, Desk.MAX, Desk.MIN}) {
            Desk.holds("set(" + actor + ", 0, 1)", !x.set(actor, 0, 1));
            Desk.holds("set(" + actor + ", 1, 1)", !x.set(actor, 1, 1));
        }
        for (int what : new int[] {-1, 2, 3, Desk.MAX, Desk.MIN}) {
            Desk.holds("set(0, " + what + ", 0)", !x.set(0, what, 0));
            Desk.holds("set(7, " + what + ", 1)", !x.set(7, what, 1));
        }
        Desk.holds("set of an ACTOR without a BOOK", x.set(7, 0, 2));
    }

    private static void mark() {
        Desk.sentence("9 False: no such SPEECH");
        SheSays x = Desk.of("Ax,By,Cz;2-2", "");
        for (int s : new int[] {-1, 2, 3, 24, 31, 32, 33, Desk.MAX, -32, Desk.MIN}) {
            Desk.holds("mark(" + s + ", true) of 2", !x.mark(s, true));
            Desk.holds("mark(" + s + ", false) of 2", !x.mark(s, false));
        }
        Desk.due("count(6)", x.count(6), 0);
        Desk.holds("mark(0, true) of none", !new SheSays().mark(0, true));
        Desk.holds("mark(0, false) of none", !new SheSays().mark(0, false));
        Desk.sentence("9 False: it is so");
        Desk.holds("mark(1, false) at first", !x.mark(1, false));
        Desk.holds("mark(1, true)", x.mark(1, true));
        Desk.holds("mark(1, true) again", !x.mark(1, true));
        Desk.due("speech(1, 6)", x.speech(1, 6), 1);
        Desk.due("speech(0, 6)", x.speech(0, 6), 0);
        Desk.holds("mark(1, false)", x.mark(1, false));
        Desk.holds("mark(1, false) again", !x.mark(1, false));
        Desk.due("count(6)", x.count(6), 0);
        Desk.sentence("9 all of 24");
        x = Desk.of(FULL, "");
        for (int s = 0; s < 24; s++) {
            Desk.holds("mark(" + s + ", true)", x.mark(s, true));
            Desk.due("count(6)", x.count(6), s + 1);
        }
        Desk.holds("mark(24, true) of 24", !x.mark(24, true));
    }

    private static void leapsAre(String book, int kind, int... want) {
        SheSays x = Desk.of(book, "");
        x.set(0, 0, kind);
        for (int s = 0; s < want.length; s++) {
            Desk.due("leap(" + s + ") of " + book + " by KIND " + kind, x.leap(s), want[s]);
        }
        Desk.due("leap(" + want.length + ")", x.leap(want.length), -1000000);
    }

    private static void leap() {
        Desk.sentence("T2 0 STOP; 10 NONE: it STOPS");
        leapsAre("Ax,Ax,Ax,Ax", 0, -1, -1, -1, -1);
        Desk.sentence("T2 1 LEAP to the first LIKE one behind it; STOP, if there is none");
        leapsAre("Ax,Ax,Ax,Ax", 1, -1, 2, 3, -1);
        leapsAre("Bx,Ax,Bx,Bx,Ay,Ax,Bx,Ax", 1, -1, 4, -1, -1, 7, -1, -1, -1);
        Desk.sentence("T2 2 LEAP to the last LIKE one ahead of it, else STOP");
        leapsAre("Ax,Ax,Ax,Ax", 2, -1, -1, 1, 2);
        leapsAre("Bx,Ax,Bx,Bx,Ay,Ax,Bx,Ax", 2, -1, -1, -1, -1, 1, -1, -1, 4);
        Desk.sentence("T2 3 LEAP to the nearest LIKE one, else STOP");
        leapsAre("Bx,Ax,Bx,Bx,Ax,Bx,Ax", 3, -1, 4, -1, -1, 6, -1, 4);
        leapsAre("Bx,Ax,Bx,Ax,Bx,Bx,Ax", 3, -1, 3, -1, 1, -1, -1, 3);
        leapsAre("Bx,Ay,By", 3, -1, -1, -1);
        Desk.sentence("T2 of two as near the one ahead");
        leapsAre("Ax,Ax,Ax,Ax", 3, -1, 2, 1, 2);
        leapsAre("Bx,Ax,Bx,Ax,Bx,Ax", 3, -1, 3, -1, 1, -1, 3);
        Desk.sentence("10 HIDDEN: no such one");
        SheSays x = Desk.of("Ax,By,Cz;2-2", "");
        for (int s : new int[] {-1, 2, 3, 24, 32, Desk.MAX, Desk.MIN}) {
            Desk.due("leap(" + s + ") of 2", x.leap(s), -1000000);
            Desk.due("leap(" + s + ") of none", new SheSays().leap(s), -1000000);
        }
        Desk.due("leap(1) of 2", x.leap(1), -1);
        Desk.due("leap(0) of none", new SheSays().leap(0), -1000000);
        Desk.due("leap(23) of 24", Desk.of(FULL, "").leap(23), -1);
        Desk.due("leap(24) of 24", Desk.of(FULL, "").leap(24), -1000000);
    }

    private static void saysRow(SheSays x, int losses, int... row) {
        Desk.due("evening(" + losses + ", -1)", x.evening(losses, -1), row.length);
        for (int i = 0; i < row.length; i++) {
            Desk.due("evening(" + losses + ", " + i + ")", x.evening(losses, i), row[i]);
        }
        Desk.due("evening(" + losses + ", " + row.length + ")", x.evening(losses, row.length), -1);
    }

    private static void evening() {
        Desk.sentence("T2 each of these is LOST the first time it is come to (not leapt to)");
        SheSays x = Desk.of("Ax,Bx,Ax,Bx,Ax,Bx", "");
        x.set(1, 0, 2);
        saysRow(x, 0, 0, 1, 2, 3, 4, 5);
        saysRow(x, 8, 0, 1, 2, 1, 2, 3, 4, 5);
        saysRow(x, 32, 0, 1, 2, 3, 4, 3, 4, 5);
        saysRow(x, 40, 0, 1, 2, 1, 2, 3, 4, 3, 4, 5);
        x.set(1, 0, 1);
        saysRow(x, 2, 0, 3, 4, 5);
        saysRow(x, 10, 0, 3, 4, 5);
        saysRow(x, 8, 0, 1, 2, 5);
        saysRow(x, 34, 0, 3, 4);
        Desk.sentence("T2 a SPEECH that was leapt to is LOST when it is come to later for the first time");
        x = Desk.of("Bx,Ax,Cx,Ay,Ax,Cy,Az,Ac,Cx", "");
        // A's 1, 3 are LIKE by x, 4 and 6 by y; C's 2 by x, 5 by x: KIND 1 of A, KIND 2 of C
        x.set(0, 0, 1);
        x.set(2, 0, 2);
        Desk.due("leap(1)", x.leap(1), 3);
        Desk.due("leap(5)", x.leap(5), 2);
        saysRow(x, 2 + 32, 0, 3, 4, 2, 3, 4, 5, 6, 7, 8);
        saysRow(x, 2 + 32 + 8, 0, 3, 4, 2);
        Desk.due("ends of that", x.ends(2 + 32 + 8, 1), 3);
        Desk.sentence("T2 The END comes when the last one was said");
        x = Desk.of("Ax,Bx,Ax,Bx", "");
        x.set(1, 0, 1);
        saysRow(x, 2, 0, 3);
        Desk.due("ends with a LEAP to the last one", x.ends(2, 0), 0);
        Desk.due("ends with a LOST last one", x.ends(8, 0), 1);
        Desk.sentence("T2 whispers are not taken");
        x = Desk.of("Ax,By", "y:100");
        x.mark(1, true);
        x.set(1, 1, 100);
        saysRow(x, 2, 0);
        saysRow(x, 0, 0, 1);
    }

    private static void eveningLosses() {
        Desk.sentence("11 the i-th SPEECH that is said; how many are (i NONE). NONE: no such one");
        SheSays x = Desk.of("Ax,Bx,Ax,Bx", "");
        for (int i : new int[] {4, 5, 199, 200, 201, Desk.MAX, -2, -3, Desk.MIN}) {
            Desk.due("evening(0, " + i + ") of 4", x.evening(0, i), -1);
        }
        Desk.due("evening(0, 3) of 4", x.evening(0, 3), 3);
        saysRow(x, 1);
        Desk.due("evening(1, -2) of none said", x.evening(1, -2), -1);
        x.set(1, 0, 2);
        x.evening(8, -1);
        Desk.due("nothing of a longer EVENING is left", x.evening(1, 0), -1);
        Desk.sentence("11 no such LOSSES; 12 no such ones");
        for (int losses : new int[] {16, 17, 31, 1 << 24, 1 << 30, Desk.MAX, -1, -16, Desk.MIN, Desk.MIN + 1}) {
            Desk.due("evening(" + losses + ", -1) of 4", x.evening(losses, -1), -1);
            Desk.due("evening(" + losses + ", 0) of 4", x.evening(losses, 0), -1);
            for (int what = 0; what <= 2; what++) {
                Desk.due("ends(" + losses + ", " + what + ") of 4", x.ends(losses, what), -1000000);
            }
        }
        Desk.due("evening(15, -1) of 4", x.evening(15, -1), 0);
        Desk.due("evening(8, -1) of 4", x.evening(8, -1), 6);
        x = Desk.of(FULL, "");
        Desk.due("evening of the last one of 24", x.evening(1 << 23, -1), 23);
        Desk.due("evening of the first of 24", x.evening(1, -1), 0);
        Desk.due("evening of all of 24 but the first", x.evening((1 << 24) - 2, -1), 1);
        Desk.due("evening of all of 24", x.evening((1 << 24) - 1, -1), 0);
        Desk.due("evening of a twenty-fifth", x.evening(1 << 24, -1), -1);
        Desk.due("ends at the last one of 24", x.ends(1 << 23, 1), 23);
        Desk.due("ends of a twenty-fifth", x.ends(1 << 24, 1), -1000000);
        Desk.sentence("11 NONE: no BOOK; 12 HIDDEN: no BOOK");
        for (int losses = 0; losses <= 1; losses++) {
            Desk.due("evening(" + losses + ", -1) of none", new SheSays().evening(losses, -1), -1);
            Desk.due("evening(" + losses + ", 0) of none", new SheSays().evening(losses, 0), -1);
            Desk.due("ends(" + losses + ", 0) of none", new SheSays().ends(losses, 0), -1000000);
            Desk.due("ends(" + losses + ", 1) of none", new SheSays().ends(losses, 1), -1000000);
            Desk.due("ends(" + losses + ", 2) of none", new SheSays().ends(losses, 2), -1000000);
        }
        Desk.sentence("T2 the longest EVENING");
        // 13 to 23 are LIKE 1 to 11 and LEAP twelve back
        x = Desk.of("Az,Aa,Ab,Ac,Ad,Ae,Af,Ag,Ah,Ai,Aj,Ak,Az,Aa,Ab,Ac,Ad,Ae,Af,Ag,Ah,Ai,Aj,Ak", "");
        x.set(0, 0, 2);
        int losses = (1 << 24) - (1 << 13);
        Desk.due("evening(" + losses + ", -1)", x.evening(losses, -1), 24 + 11 * 12);
        Desk.due("evening(" + losses + ", 155)", x.evening(losses, 155), 23);
        Desk.due("evening(" + losses + ", 156)", x.evening(losses, 156), -1);
        Desk.due("ends(" + losses + ", 0)", x.ends(losses, 0), 0);
        Desk.due("ends(" + losses + ", 2)", x.ends(losses, 2), 5 * 156);
    }

    private static void ends() {
        Desk.sentence("12 0 the END, 1 STOP (what 0)");
        SheSays x = Desk.of("Ax99,Bx1,Cx", "");
        Desk.due("ends(0, 0)", x.ends(0, 0), 0);
        Desk.due("ends(4, 0)", x.ends(4, 0), 1);
        Desk.due("ends(1, 0)", x.ends(1, 0), 1);
        Desk.sentence("12 the SPEECH at which it STOPS by a LOSS (1; NONE: it does not)");
        Desk.due("ends(0, 1)", x.ends(0, 1), -1);
        Desk.due("ends(1, 1)", x.ends(1, 1), 0);
        Desk.due("ends(4, 1)", x.ends(4, 1), 2);
        Desk.due("ends(6, 1)", x.ends(6, 1), 1);
        Desk.sentence("12 SECONDS (2)");
        Desk.due("ends(0, 2)", x.ends(0, 2), 105);
        Desk.due("ends(4, 2)", x.ends(4, 2), 100);
        Desk.due("ends(1, 2)", x.ends(1, 2), 0);
        Desk.due("SECONDS of the most", Desk.of(Desk.book(24, "Ax99"), "").ends(0, 2), 24 * 99);
        Desk.sentence("12 HIDDEN: no such ones (what)");
        for (int what : new int[] {-1, 3, 4, Desk.MAX, Desk.MIN}) {
            Desk.due("ends(0, " + what + ")", x.ends(0, what), -1000000);
            Desk.due("ends(1, " + what + ")", x.ends(1, what), -1000000);
        }
    }

    /** The draws of a NIGHT by numbers that have no bounds, cut to 64 bits. */
    private static int[] draws(long seed, int n) {
        BigInteger all = BigInteger.ONE.shiftLeft(64);
        BigInteger x = BigInteger.valueOf(seed).mod(all);
        int[] found = new int[n];
        for (int i = 0; i < n; i++) {
            x = x.multiply(new BigInteger("6364136223846793005")).add(new BigInteger("1442695040888963407")).mod(all);
            found[i] = x.shiftRight(33).mod(BigInteger.valueOf(100)).intValue();
        }
        return found;
    }

    private static void drawsGoRound() {
        Desk.sentence("T2 x becomes x times .. and .. (64 bits, going round), shifted right by 33, without sign");
        SheSays x = Desk.of(FULL, "y:50");
        long[] seeds = {0, 1, -1, 2, -2, Long.MAX_VALUE, Long.MIN_VALUE, Long.MAX_VALUE - 1, Long.MIN_VALUE + 1, 1L << 32,
            1L << 33, (1L << 33) - 1, 0x8000000080000000L, -6364136223846793005L, -1442695040888963407L};
        for (int i = 0; i < 60; i++) {
            long seed = i < seeds.length ? seeds[i] : i * 0x9E3779B97F4A7C15L;
            int said = 0;
            for (int draw : draws(seed, 24)) {
                if (draw < 50) {
                    break;
                }
                said++;
            }
            Desk.due("night(" + seed + ")", x.night(seed), said == 24 ? 0 : 1);
            Desk.due("said by " + seed, x.latest(0), said);
            Desk.due("LOST by " + seed, x.latest(1), said == 24 ? 0 : 1);
        }
    }

    private static long seedOf(int index, int draw) {
        for (long seed = 1; seed < 100000; seed++) {
            if (draws(seed, index + 1)[index] == draw) {
                return seed;
            }
        }
        Desk.holds("a seed whose draw is " + draw, false);
        return 0;
    }

    private static void drawsBelow() {
        Desk.sentence("T2 LOST by a draw of 100 below FORGETS");
        for (int draw : new int[] {0, 1, 50, 98, 99}) {
            long seed = seedOf(0, draw);
            SheSays x = Desk.of("Ax,By", "y:s=0?" + draw);
            x.night(seed);
            Desk.due("LOST by draw " + draw + " and as much", x.latest(1), 0);
            x.law(Desk.take(x, 1, "y:s=0?" + (draw + 1)));
            x.night(seed);
            Desk.due("LOST by draw " + draw + " and one more", x.latest(1), 1);
        }
        Desk.sentence("T2 SAVED by another draw of 100 below TAKE");
        for (int draw : new int[] {0, 1, 50, 98, 99}) {
            long seed = seedOf(1, draw);
            SheSays x = Desk.of("Ax,By", "y:s=0?100");
            x.mark(0, true);
            x.set(0, 1, draw);
            x.night(seed);
            Desk.due("SAVED by draw " + draw + " and as much", x.latest(2), 0);
            x.set(0, 1, draw + 1);
            x.night(seed);
            Desk.due("SAVED by draw " + draw + " and one more", x.latest(2), 1);
        }
        Desk.sentence("T2 each SPEECH that is come to (not leapt to) is drawn for, a whisper only if LOST and MARKED");
        // 0 has the first draw, though it FORGETS 0; a whisper for 1 takes the third one, so that 2 has the fourth
        long seed = 3;
        int[] d = draws(seed, 4);
        SheSays x = Desk.of("Ax,By,Cz", "y:s=1?" + (d[1] + 1) + ";y:s=2?50");
        x.set(1, 1, 100);
        x.mark(1, true);
        x.night(seed);
        Desk.due("LOST behind a whisper", x.latest(1), d[3] < 50 ? 2 : 1);
        Desk.due("SAVED", x.latest(2), 1);
        x = Desk.of("Ax,By,Cz", "y:s=1?" + d[1] + ";y:s=2?" + (d[2] + 1));
        x.mark(1, true);
        x.night(seed);
        Desk.due("LOST without a whisper", x.latest(1), 1);
        x = Desk.of("Ax,By,Cz", "y:s=1?" + d[1] + ";y:s=2?" + d[2]);
        x.mark(1, true);
        x.night(seed);
        Desk.due("LOST by just as much", x.latest(1), 0);
        // B's 1 LEAPS to 3, for which no draw is made, though it FORGETS
        x = Desk.of("Ax,Bx,Ax,Bx,Cz", "y:s=1?100;y:s=3?100;y:s=4?" + (d[2] + 1));
        x.set(1, 0, 1);
        Desk.due("night", x.night(seed), 1);
        Desk.due("LOST behind a LEAP", x.latest(1), 2);
        Desk.due("said", x.latest(0), 2);
        x.law(Desk.take(x, 1, "y:s=1?100;y:s=3?100;y:s=4?" + d[2]));
        Desk.due("night", x.night(seed), 0);
        Desk.due("LOST behind a LEAP by just as much", x.latest(1), 1);
    }

    private static void night() {
        Desk.sentence("13 how it ends, as for EVENING. NONE: no BOOK");
        Desk.due("night(0) of none", new SheSays().night(0), -1);
        Desk.due("night(MIN) of none", new SheSays().night(Long.MIN_VALUE), -1);
        SheSays y = new SheSays();
        y.night(1);
        Desk.due("a NIGHT of none is none", y.count(5), 0);
        Desk.due("night of FORGETS 0", Desk.of(FULL, "").night(9), 0);
        Desk.due("night of FORGETS 100", Desk.of(FULL, "y:100").night(9), 1);
        Desk.sentence("T2 a whisper that is taken costs 3 SECONDS");
        SheSays x = Desk.of("Ax7,By9", "y:100");
        x.mark(0, true);
        x.mark(1, true);
        x.set(0, 1, 100);
        x.set(1, 1, 0);
        Desk.due("night with one taken", x.night(0), 1);
        Desk.due("SECONDS", x.latest(3), 10);
        Desk.due("SAVED", x.latest(2), 1);
        x.set(1, 1, 100);
        Desk.due("night with two taken", x.night(0), 0);
        Desk.due("SECONDS", x.latest(3), 22);
        x.set(0, 1, 0);
        Desk.due("night with none taken", x.night(0), 1);
        Desk.due("SECONDS", x.latest(3), 0);
        Desk.sentence("T2 a LOST SPEECH that is not MARKED takes no whisper");
        x.set(0, 1, 100);
        x.mark(0, false);
        x.night(0);
        Desk.due("SAVED", x.latest(2), 0);
        Desk.due("LOST", x.latest(1), 1);
    }

    /** How often the last one of LOOPED is LOST at 99 of 100 ahead of being said; the draws of 0 and 1 go ahead. */
    private static int lossesBy(long seed) {
        long x = seed;
        int losses = 0;
        for (int i = 0; i < 300; i++) {
            x = x * 6364136223846793005L + 1442695040888963407L;
            if (i >= 2 && (x >>> 33) % 100 >= 99) {
                return losses;
            }
            losses += i >= 2 ? 1 : 0;
        }
        return losses;
    }

    private static long seedWithLosses(int losses) {
        for (long seed = 1; seed < 1000000; seed++) {
            if (lossesBy(seed) == losses) {
                return seed;
            }
        }
        Desk.holds("a seed with " + losses + " LOSSES", false);
        return 0;
    }

    private static void atMost200() {
        Desk.sentence("T2 At most 200 SPEECHES are said; then the PLAY STOPS, too; 12 2 too many");
        SheSays x = Desk.of(LOOPED, "y:s=2?99");
        x.set(1, 0, 2);
        // each LOSS says 1 again: 3 and the LOSSES are said
        int[][] want = {{0, 0, 3, 0}, {196, 0, 199, 196}, {197, 0, 200, 197}, {198, 2, 200, 198}, {199, 2, 200, 198}};
        for (int[] one : want) {
            long seed = seedWithLosses(one[0]);
            Desk.due("night with " + one[0] + " LOSSES", x.night(seed), one[1]);
            Desk.due("said", x.latest(0), one[2]);
            Desk.due("LOST", x.latest(1), one[3]);
            Desk.due("SAVED", x.latest(2), 0);
            Desk.due("SECONDS", x.latest(3), 5 * one[2]);
            Desk.due("LEAPS", x.latest(4), one[3]);
        }
        Desk.due("LOST in all", x.speech(2, 9), 196 + 197 + 198 + 198);
        Desk.sentence("T2 nobody comes to the next one then: it does not STOP by a LOSS");
        // with 197 LOSSES of 2 its own saying is the 200th: 3, which would be LOST and STOP, is not come to
        x = Desk.of("Ax,Bx,Bx,Cx", "y:s=2?99;y:s=3?100");
        x.set(1, 0, 2);
        Desk.due("night that comes to 3 at last", x.night(seedWithLosses(196)), 1);
        Desk.due("said", x.latest(0), 199);
        Desk.due("LOST", x.latest(1), 197);
        Desk.due("night that says 200", x.night(seedWithLosses(197)), 2);
        Desk.due("said", x.latest(0), 200);
        Desk.due("LOST", x.latest(1), 197);
        Desk.due("LOST of 3", x.speech(3, 9), 1);
    }

    private static void latest() {
        Desk.sentence("14 NONE: none of this BOOK");
        SheSays x = new SheSays();
        allLatestAre(x, "of no BOOK");
        Desk.take(x, 0, "Ax,By");
        allLatestAre(x, "of no NIGHT");
        x.night(1);
        int[] want = {2, 0, 0, 10, 0};
        for (int what = 0; what <= 4; what++) {
            Desk.due("latest(" + what + ")", x.latest(what), want[what]);
        }
        x.trial(50, 0);
        Desk.due("latest(0) behind a TRIAL", x.latest(0), 2);
        Desk.take(x, 0, "Ax,By,Cz");
        allLatestAre(x, "of another BOOK");
        x.trial(5, 0);
        allLatestAre(x, "behind a TRIAL");
        x.night(1);
        Desk.due("latest(0) of that BOOK", x.latest(0), 3);
        Desk.sentence("14 NONE: no such what");
        for (int what : new int[] {-1, 5, 6, Desk.MAX, Desk.MIN}) {
            Desk.due("latest(" + what + ")", x.latest(what), -1);
        }
        Desk.sentence("14 how many were said (0), LOST (1), SAVED (2), SECONDS (3), LEAPS (4)");
        x = Desk.of("Ax1,Bx2,Ax3,Bx4,Cz5,Dz6", "y:s=1?100;y:s=4?100;y:s=5?100");
        x.set(1, 0, 1);
        x.mark(4, true);
        x.set(2, 1, 100);
        Desk.due("night(7)", x.night(7), 1);
        want = new int[] {3, 3, 1, 1 + 4 + 5 + 3, 1};
        for (int what = 0; what <= 4; what++) {
            Desk.due("latest(" + what + ")", x.latest(what), want[what]);
        }
    }

    private static void allLatestAre(SheSays x, String of) {
        for (int what = 0; what <= 4; what++) {
            Desk.due("latest(" + what + ") " + of, x.latest(what), -1);
        }
    }

    private static void keptOfNights() {
        Desk.sentence("T2 It is kept: how often each SPEECH was LOST (SAVED or not) in all NIGHTS");
        SheSays x = Desk.of("Ax,By,Cz", "y:s=2?0;y:100");
        x.set(0, 1, 100);
        x.set(1, 1, 0);
        x.night(1);
        speechesAre(x, 9, 1, 0, 0);
        x.mark(0, true);
        x.night(1);
        speechesAre(x, 9, 2, 1, 0);
        x.mark(1, true);
        x.night(2);
        speechesAre(x, 9, 3, 2, 0);
        x.law(-1);
        x.night(3);
        speechesAre(x, 9, 3, 2, 0);
        Desk.due("NIGHTS", x.count(5), 4);
        x.trial(50, 2);
        x.evening(7, 0);
        speechesAre(x, 9, 3, 2, 0);
    }

    private static void marksAre(SheSays x, int marks) {
        for (int s = 0; s < x.count(1); s++) {
            Desk.due("speech(" + s + ", 6)", x.speech(s, 6), marks >> s & 1);
        }
    }

    private static void learn() {
        Desk.sentence("T2 MARKED are just the k SPEECHES LOST most often, at least once");
        SheSays x = Desk.of("Ax,By,Cz,Dz,Ez", "y:100");
        for (int actor = 0; actor < 5; actor++) {
            x.set(actor, 1, 100);
        }
        for (int s = 0; s < 3; s++) {
            x.night(s);
            x.mark(s, true);
        }
        // 0 was LOST three times, 1 twice, 2 once
        speechesAre(x, 9, 3, 2, 1, 0, 0);
        x.mark(4, true);
        int[] marks = {0, 1, 3, 7, 7, 7};
        for (int k = 5; k >= 0; k--) {
            Desk.due("learn(" + k + ")", x.learn(k), Math.min(k, 3));
            marksAre(x, marks[k]);
        }
        Desk.due("learn(24)", x.learn(24), 3);
        Desk.due("learn without a NIGHT", markedAnyway().learn(24), 0);
        Desk.due("learn(0)", markedAnyway().learn(0), 0);
        Desk.sentence("T2 of several the lowest");
        x = Desk.of("Ax,By,Cz,Dz", "y:s>0?100");
        for (int actor = 0; actor < 4; actor++) {
            x.set(actor, 1, 100);
        }
        for (int s = 1; s < 4; s++) {
            x.mark(s, true);
        }
        x.night(1);
        speechesAre(x, 9, 0, 1, 1, 1);
        marks = new int[] {0, 2, 6, 14, 14};
        for (int k = 0; k <= 4; k++) {
            Desk.due("learn(" + k + ") of several", x.learn(k), Math.min(k, 3));
            marksAre(x, marks[k]);
        }
        Desk.sentence("T2 LEARN k (0 .. 24); 15 NONE: no BOOK, out of bounds");
        for (int k : new int[] {-1, 25, 26, Desk.MAX, Desk.MIN}) {
            Desk.due("learn(" + k + ")", x.learn(k), -1);
            Desk.due("count(6)", x.count(6), 3);
        }
        Desk.due("learn(0) of none", new SheSays().learn(0), -1);
        Desk.due("learn(24) of none", new SheSays().learn(24), -1);
        // all of 24 were LOST once
        x = Desk.of(FULL, "y:100");
        for (int actor = 0; actor < 8; actor++) {
            x.set(actor, 1, 100);
        }
        for (int s = 0; s < 24; s++) {
            x.mark(s, true);
        }
        Desk.due("night with 24 SAVED", x.night(1), 0);
        Desk.due("learn(23) of 24", x.learn(23), 23);
        Desk.due("the last one is not", x.speech(23, 6), 0);
        Desk.due("learn(24) of 24", x.learn(24), 24);
        Desk.due("the last one is", x.speech(23, 6), 1);
    }

    private static SheSays markedAnyway() {
        SheSays x = Desk.of("Ax,By", "");
        x.mark(0, true);
        x.mark(1, true);
        return x;
    }
}
