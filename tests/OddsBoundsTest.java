/** Terms 3 and 4 and promises 16 to 38 at their bounds: what is counted, how likely the END is, images. */
public final class OddsBoundsTest {
    private static final int PARTS = 1000000000;
    private static final int[] NO_MOST = {0, -1, 201, 202, Desk.MAX, Desk.MIN};
    private static final int[] NO_WHAT = {-1, 2, 3, Desk.MAX, Desk.MIN};
    private static final String FULL = Desk.book(24, "Ax", "Bx", "Cx", "Dx", "Ex", "Fx", "Gx", "Hx");
    /** 2 is LOST and LEAPS to 1 as often as it is come to. */
    private static final String LOOPED = "Ax,Bx,Bx";

    public static void main(String[] args) {
        loop();
        hole();
        stopsAndFrom();
        rows();
        chance();
        chanceWithNoMore();
        whatIsCut();
        mean();
        could();
        fewest();
        fewestOfTen();
        understudy();
        worst();
        silence();
        spare();
        playersNear();
        playersOf();
        shortest();
        longest();
        visits();
        trial();
        doubtful();
        reword();
        imageAndBack();
        anotherBook();
        count();
        Desk.end();
    }

    /** The BOOK with all ACTORS of this KIND. */
    private static SheSays ofKind(int kind, String book) {
        SheSays x = Desk.of(book, "");
        for (int actor = 0; actor < 8; actor++) {
            x.set(actor, 0, kind);
        }
        return x;
    }

    private static void loopIs(int kind, String book, int many, int lost) {
        SheSays x = ofKind(kind, book);
        Desk.due("loop(0) of " + book, x.loop(0), many);
        Desk.due("loop(1) of " + book, x.loop(1), lost);
    }

    private static void loop() {
        Desk.sentence("T3 LOOP: the fewest SPEECHES that are said again");
        loopIs(2, "Ax,Ax,Ax", 1, 2);
        loopIs(2, "Ax,Bx,Cx,Bx", 2, 3);
        loopIs(2, "Ax,Bx,Cx,Dx,Bx,Cx,Bx", 2, 6);
        loopIs(2, "Aa,Ba," + Desk.book(21, "Ca") + ",Ba", 1, 3);
        loopIs(2, "Aa,Ba," + Desk.book(21, "Cb", "Db", "Eb", "Fb", "Gb") + ",Bb", 5, 8);
        Desk.sentence("T3 the LOST one (of several the lowest)");
        loopIs(2, "Ax,Ax,Ax,Ax", 1, 2);
        loopIs(2, "Ax,Bx,Cx,Bx,Cx", 2, 3);
        Desk.sentence("16 NONE: none, no BOOK, no such what");
        loopIs(0, "Ax,Ax,Ax", -1, -1);
        loopIs(1, "Ax,Ax,Ax", -1, -1);
        loopIs(2, "Ax,Ay,Az", -1, -1);
        loopIs(2, "Ax,Ax", -1, -1);
        loopIs(3, "Ax,Ax,Ax", 1, 2);
        Desk.due("loop(0) of none", new SheSays().loop(0), -1);
        Desk.due("loop(1) of none", new SheSays().loop(1), -1);
        for (int what : NO_WHAT) {
            Desk.due("loop(" + what + ")", ofKind(2, "Ax,Ax,Ax,Ax").loop(what), -1);
        }
    }

    private static void holeIs(int kind, String book, int many, int lost) {
        SheSays x = ofKind(kind, book);
        Desk.due("hole(0) of " + book, x.hole(0), many);
        Desk.due("hole(1) of " + book, x.hole(1), lost);
    }

    private static void hole() {
        Desk.sentence("T3 HOLE: of those that LEAP to one behind: the most that are left out");
        holeIs(1, "Ax,Ax,Ax", 1, 1);
        holeIs(1, "Ax,Bx,Cx,Bx", 2, 1);
        holeIs(1, "Ax,Bx,Cx,Bx,Ax,Cx", 3, 2);
        holeIs(1, "Aa,Ba," + Desk.book(21, "Ca") + ",Ba", 22, 1);
        Desk.sentence("17 the LOST one likewise (of several the lowest)");
        holeIs(1, "Ax,Ax,Ax,Ax", 1, 1);
        holeIs(1, "Ax,Bx,Cx,Bx,Cx", 2, 1);
        Desk.sentence("17 NONE: none, no BOOK, no such what");
        holeIs(0, "Ax,Ax,Ax", -1, -1);
        holeIs(2, "Ax,Ax,Ax", -1, -1);
        holeIs(1, "Ax,Ay,Az", -1, -1);
        holeIs(1, "Ax,Ax", -1, -1);
        holeIs(3, "Ax,Ax,Ax", 1, 1);
        Desk.due("hole(0) of none", new SheSays().hole(0), -1);
        Desk.due("hole(1) of none", new SheSays().hole(1), -1);
        for (int what : NO_WHAT) {
            Desk.due("hole(" + what + ")", ofKind(1, "Ax,Ax,Ax,Ax").hole(what), -1);
        }
    }

    private static void stopsAndFrom() {
        Desk.sentence("18 STOPS, as bits. NONE: no BOOK");
        Desk.due("stops() of none", new SheSays().stops(), -1);
        Desk.due("stops() of two", Desk.of("Ax,Ax", "").stops(), 3);
        Desk.due("stops() of all of 24", Desk.of(FULL, "").stops(), (1 << 24) - 1);
        Desk.due("stops() of all but LEAPS", ofKind(3, Desk.book(24, "Ax")).stops(), 1);
        Desk.due("stops() ahead", ofKind(2, Desk.book(24, "Ax")).stops(), 3);
        Desk.due("stops() behind", ofKind(1, Desk.book(24, "Ax")).stops(), 1 | 1 << 23);
        Desk.sentence("T3 FROM: SPEECHES (bits) from which one LEAPS to one told");
        SheSays x = ofKind(3, "Ax,Bx,Cx,Cx,Bx,Cx");
        // B's 1 and 4, C's 2, 3, 5
        int[] want = {0, 1 << 4, 1 << 3, 1 << 2 | 1 << 5, 1 << 1, 0};
        for (int s = 0; s < 6; s++) {
            Desk.due("from(" + s + ")", x.from(s), want[s]);
        }
        Desk.due("from(22) of 24", ofKind(2, Desk.book(24, "Ax")).from(22), 1 << 23);
        Desk.due("from(23) of 24", ofKind(1, Desk.book(24, "Ax")).from(23), 1 << 22);
        Desk.due("from(0) of 24", ofKind(3, Desk.book(24, "Ax")).from(0), 0);
        Desk.sentence("19 NONE: no such SPEECH");
        for (int s : new int[] {-1, -2, 6, 7, 24, 32, Desk.MAX, Desk.MIN}) {
            Desk.due("from(" + s + ") of 6", x.from(s), -1);
            Desk.due("from(" + s + ") of 6 that STOP", Desk.of("Ax,Ax,Ax,Ax,Ax,Ax", "").from(s), -1);
        }
        Desk.due("from(0) of none", new SheSays().from(0), -1);
        Desk.due("from(24) of 24", Desk.of(FULL, "").from(24), -1);
    }

    private static void rows() {
        Desk.sentence("T3 ROWS of k LOSSES (0 .. 6); 20 NONE: out of bounds");
        SheSays x = ofKind(2, LOOPED);
        for (int k = 0; k <= 6; k++) {
            Desk.due("rows(" + k + ")", x.rows(k), 1);
        }
        for (int k : new int[] {-1, -2, 7, 8, Desk.MAX, Desk.MIN}) {
            Desk.due("rows(" + k + ")", x.rows(k), -1);
        }
        Desk.sentence("20 NONE: no BOOK");
        Desk.due("rows(0) of none", new SheSays().rows(0), -1);
        Desk.due("rows(6) of none", new SheSays().rows(6), -1);
        Desk.sentence("T3 with just k LOST on the way (any that is come to, not leapt to)");
        x = Desk.of(FULL, "");
        Desk.due("rows(0) if all STOP", x.rows(0), 1);
        Desk.due("rows(1) if all STOP", x.rows(1), 0);
        Desk.due("rows(6) if all STOP", x.rows(6), 0);
        // 1, 2, .. LEAP to the next one, which is not come to then: of 23 so many pairs, not touching
        x = ofKind(1, Desk.book(24, "Ax"));
        int[] pairs = {1, 22, 210, 1140, 3876, 8568, 12376};
        for (int k = 0; k <= 6; k++) {
            Desk.due("rows(" + k + ") of pairs", x.rows(k), pairs[k]);
        }
        Desk.sentence("T3 each as often as it is come to");
        // 12 to 22 LEAP eleven back, so that each of them can be LOST behind each
        x = ofKind(2, "Aa,Ab,Ac,Ad,Ae,Af,Ag,Ah,Ai,Aj,Ak,Aa,Ab,Ac,Ad,Ae,Af,Ag,Ah,Ai,Aj,Ak,Al,Aa");
        for (int k = 0, want = 1; k <= 6; k++, want *= 11) {
            Desk.due("rows(" + k + ") of eleven loops", x.rows(k), want);
        }
        Desk.sentence("T3 come to the END with no more than 200 said (up to 1,000,000,000, then that): the most there are");
        Desk.due("rows(6) of the most said", x.rows(6), 1771561);
    }

    private static void chance() {
        Desk.sentence("T3 no more than so many said (1 .. 200); 21 NONE: no BOOK, out of bounds");
        SheSays x = Desk.of("Ax,By", "y:10");
        Desk.due("chance(1)", x.chance(1), 0);
        Desk.due("chance(2)", x.chance(2), 810000000);
        Desk.due("chance(200)", x.chance(200), 810000000);
        for (int most : NO_MOST) {
            Desk.due("chance(" + most + ")", x.chance(most), -1);
        }
        Desk.due("chance(1) of none", new SheSays().chance(1), -1);
        Desk.due("chance(200) of none", new SheSays().chance(200), -1);
        Desk.due("chance(0) of none", new SheSays().chance(0), -1);
        Desk.sentence("T3 of 10 to the 9 parts: all and none of them");
        Desk.due("chance of FORGETS 0", Desk.of(FULL, "").chance(24), PARTS);
        Desk.due("chance of FORGETS 100", Desk.of(FULL, "y:100").chance(200), 0);
        Desk.due("chance with one fewer", Desk.of(FULL, "").chance(23), 0);
        Desk.due("chance of FORGETS 0 with LEAPS", ofKind(2, FULL).chance(24), PARTS);
        x = Desk.of("Ax,By", "y:100");
        x.mark(0, true);
        x.mark(1, true);
        x.set(0, 1, 100);
        x.set(1, 1, 100);
        Desk.due("chance if all are SAVED", x.chance(2), PARTS);
        Desk.sentence("T3 SAVED: if MARKED");
        x.mark(1, false);
        Desk.due("chance if one is not", x.chance(2), 0);
        x.law(-1);
        Desk.due("chance without a LAW", x.chance(2), PARTS);
    }

    private static void chanceWithNoMore() {
        Desk.sentence("T3 CHANCE that the END comes with no more than so many said");
        SheSays x = Desk.of(LOOPED, "y:s=2?99");
        x.set(1, 0, 2);
        long under = PARTS;
        long ended = 0;
        for (int most = 1; most <= 200; most++) {
            if (most >= 3) {
                long lost = under * 99 / 100;
                ended += under - lost;
                under = lost;
            }
            Desk.due("chance(" + most + ")", x.chance(most), ended);
        }
        Desk.holds("the last one counts", x.chance(200) > x.chance(199));
        Desk.sentence("T3 a LEAP says one, as a SPEECH does");
        x = Desk.of("Ax,Bx,Ax,Bx", "y:s=1?100");
        x.set(1, 0, 1);
        Desk.due("chance(1)", x.chance(1), 0);
        Desk.due("chance(2)", x.chance(2), PARTS);
        Desk.sentence("T3 SECONDS are not asked");
        x = Desk.of("Ax99,Bx99,Ax99,Bx99", "y:s=1?100");
        x.set(1, 0, 1);
        Desk.due("chance(2) of long ones", x.chance(2), PARTS);
    }

    private static void whatIsCut() {
        Desk.sentence("T3 LOST: parts times FORGETS by 100, cut");
        // of 1,000,000,000 at 99 of 100 each, 10,000,000 and less go on: 1,000,000, 10,000, 100, 1
        SheSays x = Desk.of("Aa,Ab,Ac,Ad,Ae,Af,Ag", "y:99");
        int[] parts = {10000000, 100000, 1000, 10, 1, 1, 1};
        long under = PARTS;
        for (int s = 0; s < 7; s++) {
            under -= under * 99 / 100;
            Desk.due("parts behind " + s, under, parts[s]);
            Desk.due("visits(" + s + ", 200)", x.visits(s, 200), parts[s]);
        }
        Desk.due("chance(7)", x.chance(7), 1);
        Desk.sentence("T3 SAVED: LOST times TAKE by 100, cut");
        x = Desk.of("Aa,Ab,Ac,Ad,Ae,Bx", "y:99");
        x.mark(4, true);
        x.set(0, 1, 99);
        // 10 parts come to 4: 9 are LOST, 8 of them SAVED
        Desk.due("visits(3, 200)", x.visits(3, 200), 10);
        Desk.due("visits(4, 200)", x.visits(4, 200), 9);
        Desk.due("mean(4, 200)", x.mean(4, 200), 1);
        Desk.sentence("T3 the rest of LOST LEAPS or STOPS");
        x = Desk.of("Ax,Bx,Ax,Bx,Cx", "y:s=1?30;y:s=3?40");
        x.set(1, 0, 1);
        x.mark(1, true);
        x.set(1, 1, 25);
        // 300 are LOST at 1, 75 SAVED, 225 LEAP to 3 and go on to 4; 775 come to 3, 310 STOP there
        Desk.due("visits(1, 200)", x.visits(1, 200), 775000000);
        Desk.due("visits(3, 200)", x.visits(3, 200), 225000000 + 465000000);
        Desk.due("mean(1, 200)", x.mean(1, 200), 0);
        Desk.due("mean(3, 200)", x.mean(3, 200), 310000000);
        Desk.due("chance(200)", x.chance(200), 690000000);
        Desk.due("chance(3)", x.chance(3), 225000000);
        Desk.sentence("T3 parts that come to one SPEECH with as many said, in whatever way, are added up ahead of that");
        // 1 LEAPS to 2, so that 3 is come to with two said and with three said: that is not added up
        x = Desk.of("Ax,Bx,Bx,Cx,Dx", "y:s=1?50;y:s=3?50");
        x.set(1, 0, 1);
        Desk.due("visits(3, 3)", x.visits(3, 3), 250000000);
        Desk.due("visits(3, 4)", x.visits(3, 4), 500000000);
        addedUp();
    }

    /** 4 is come to from 3, which was said, and by the LEAPS of 1 and 5: cut one by one, other parts would be LOST. */
    private static void addedUp() {
        SheSays x = Desk.of("Ax,Bx,Cx,Bx,Cx,Bx", "y:s=0?0;y:s=5?99;y:99");
        x.set(1, 0, 3);
        x.set(2, 0, 3);
        long[] now = new long[7];
        now[0] = PARTS;
        int[] leaps = {-1, 3, 4, 1, 2, 3};
        long ended = 0;
        for (int most = 1; most <= 200; most++) {
            long[] next = new long[7];
            for (int s = 0; s < 6; s++) {
                long lost = s == 0 ? 0 : now[s] * 99 / 100;
                next[s + 1] += now[s] - lost;
                if (leaps[s] >= 0) {
                    next[leaps[s] + 1] += lost;
                }
            }
            ended += next[6];
            next[6] = 0;
            now = next;
            Desk.due("chance(" + most + ") of ways that meet", x.chance(most), ended);
        }
    }

    private static void mean() {
        Desk.sentence("22 NONE: no such one, out of bounds");
        SheSays x = Desk.of("Ax,By,Cz;2-2", "y:10");
        for (int s : new int[] {-1, 2, 3, 24, 32, Desk.MAX, Desk.MIN}) {
            Desk.due("mean(" + s + ", 1)", x.mean(s, 1), -1);
            Desk.due("mean(" + s + ", 200)", x.mean(s, 200), -1);
        }
        for (int most : NO_MOST) {
            Desk.due("mean(0, " + most + ")", x.mean(0, most), -1);
            Desk.due("mean(1, " + most + ")", x.mean(1, most), -1);
        }
        Desk.due("mean(0, 1) of none", new SheSays().mean(0, 1), -1);
        Desk.due("mean(0, 1)", x.mean(0, 1), 100000000);
        Desk.due("mean(1, 200)", x.mean(1, 200), 90000000);
        Desk.due("mean(23, 200) of 24", Desk.of(FULL, "y:s=23?100").mean(23, 200), PARTS);
        Desk.due("mean(24, 200) of 24", Desk.of(FULL, "y:s=23?100").mean(24, 200), -1);
        Desk.sentence("T3 MEAN: parts that STOPPED at each SPEECH (by LOSS, not as too many were said)");
        x = Desk.of("Ax,By,Cz", "y:s=1?100");
        Desk.due("mean(1, 1): one said, nobody comes to 1", x.mean(1, 1), 0);
        Desk.due("mean(1, 2)", x.mean(1, 2), PARTS);
        Desk.due("mean(0, 2)", x.mean(0, 2), 0);
        Desk.due("mean(2, 200)", x.mean(2, 200), 0);
        x = Desk.of(LOOPED, "y:s=2?100");
        x.set(1, 0, 2);
        for (int s = 0; s < 3; s++) {
            Desk.due("mean(" + s + ", 200) of too many", x.mean(s, 200), 0);
        }
        Desk.due("mean of all", Desk.of("Ax,By", "y:100").mean(0, 1), PARTS);
        Desk.sentence("T3 MEAN: all parts, as often as the SPEECH is come to");
        // 3 LEAPS back to 1 each time: 2 is come to with 2, 4, .. said by all that did not STOP there
        x = Desk.of("Ax,Bx,Cx,Bx", "y:s=2?50;y:s=3?100");
        x.set(1, 0, 2);
        long stopped = 0;
        long under = PARTS;
        for (int most = 1; most <= 200; most++) {
            if (most % 2 == 1 && most > 1) {
                stopped += under / 2;
                under -= under / 2;
            }
            Desk.due("mean(2, " + most + ")", x.mean(2, most), stopped);
        }
    }

    private static void could() {
        Desk.sentence("23 NONE: no such SPEECH");
        SheSays x = Desk.of(Desk.book(13, "Ax") + ";12-12", "");
        for (int s : new int[] {-1, 12, 13, 24, 31, 32, 33, Desk.MAX, -32, Desk.MIN}) {
            Desk.due("could(" + s + ") of 12", x.could(s), -1);
            Desk.due("could(" + s + ") of none", new SheSays().could(s), -1);
        }
        Desk.due("could(0) of none", new SheSays().could(0), -1);
        Desk.due("count(7)", x.count(7), 0);
        Desk.sentence("23 NONE: it could");
        Desk.due("could(11)", x.could(11), 1);
        Desk.due("could(11) again", x.could(11), -1);
        Desk.due("could(0)", x.could(0), 2);
        Desk.due("could(0) again", x.could(0), -1);
        Desk.due("could(11) again", x.could(11), -1);
        Desk.due("count(7)", x.count(7), 2);
        Desk.sentence("T3 COULD (10 at most); 23 NONE: there are ten");
        for (int s = 1; s <= 8; s++) {
            Desk.due("could(" + s + ")", x.could(s), s + 2);
        }
        Desk.due("could(9) as an eleventh", x.could(9), -1);
        Desk.due("could(10) as an eleventh", x.could(10), -1);
        Desk.due("could(8) again", x.could(8), -1);
        Desk.due("count(7)", x.count(7), 10);
        Desk.sentence("23 a MARKED one COULD be, too");
        x = Desk.of(FULL, "");
        x.mark(23, true);
        Desk.due("could(23) of 24", x.could(23), 1);
        Desk.due("could(24) of 24", x.could(24), -1);
        Desk.due("count(6)", x.count(6), 1);
    }

    /** Four SPEECHES of four ACTORS at 10 of 100, whose whispers are always taken. */
    private static SheSays four() {
        SheSays x = Desk.of("Ax,Bx,Cx,Dx", "y:10");
        for (int actor = 0; actor < 4; actor++) {
            x.set(actor, 1, 100);
        }
        return x;
    }

    private static void fewestIs(SheSays x, int parts, int most, int many, int which) {
        Desk.due("fewest(" + parts + ", " + most + ", 0)", x.fewest(parts, most, 0), many);
        Desk.due("fewest(" + parts + ", " + most + ", 1)", x.fewest(parts, most, 1), which);
    }

    private static void fewest() {
        Desk.sentence("T3 FEWEST marks so that CHANCE is so much or more");
        SheSays x = four();
        fewestIs(x, 656100000, 4, 0, 0);
        fewestIs(x, 656100001, 4, -1, -1);
        x.could(3);
        x.could(1);
        x.could(2);
        fewestIs(x, 656100000, 4, 0, 0);
        fewestIs(x, 656100001, 4, 1, 2);
        fewestIs(x, 729000000, 4, 1, 2);
        fewestIs(x, 729000001, 4, 2, 6);
        fewestIs(x, 810000000, 4, 2, 6);
        fewestIs(x, 810000001, 4, 3, 14);
        fewestIs(x, 900000000, 4, 3, 14);
        fewestIs(x, 900000001, 4, -1, -1);
        Desk.sentence("T3 with no more than so many said, as for CHANCE");
        fewestIs(x, 1, 3, -1, -1);
        fewestIs(x, 0, 3, 0, 0);
        fewestIs(x, 0, 1, 0, 0);
        fewestIs(x, 900000000, 200, 3, 14);
        Desk.sentence("T3 which (bits; of several the least)");
        x = Desk.of("Ax,Bx,Cx", "y:s=2?50;y:10");
        for (int s = 0; s < 3; s++) {
            x.set(s, 1, 100);
            x.could(s);
        }
        // one mark of 2 does as much as both others
        fewestIs(x, 405000001, 3, 1, 1);
        fewestIs(x, 450000000, 3, 1, 1);
        fewestIs(x, 450000001, 3, 1, 4);
        fewestIs(x, 810000001, 3, 2, 5);
        fewestIs(x, 900000000, 3, 2, 5);
        fewestIs(x, 900000001, 3, 3, 7);
        fewestIs(x, PARTS, 3, 3, 7);
        Desk.sentence("T3 those of them not chosen not MARKED, all others as they are");
        x = four();
        x.could(0);
        x.mark(0, true);
        fewestIs(x, 656100001, 4, 1, 1);
        fewestIs(x, 656100000, 4, 0, 0);
        x.mark(3, true);
        fewestIs(x, 729000000, 4, 0, 0);
        fewestIs(x, 729000001, 4, 1, 1);
        fewestIs(x, 810000001, 4, -1, -1);
        Desk.due("MARKED as ahead", x.speech(0, 6) + x.speech(3, 6), 2);
        Desk.due("count(6)", x.count(6), 2);
        x = Desk.of("Ax,By", "y:m*90");
        x.could(0);
        x.mark(0, true);
        fewestIs(x, PARTS, 2, 0, 0);
        Desk.sentence("24 out of bounds (parts 0 .. 10 to the 9), no such what, no BOOK");
        x = four();
        for (int parts : new int[] {-1, Desk.MIN, PARTS + 1, Desk.MAX}) {
            fewestIs(x, parts, 4, -1, -1);
        }
        x.law(-1);
        fewestIs(x, PARTS, 4, 0, 0);
        fewestIs(x, PARTS + 1, 4, -1, -1);
        for (int most : NO_MOST) {
            fewestIs(x, 0, most, -1, -1);
        }
        for (int what : NO_WHAT) {
            Desk.due("fewest(0, 4, " + what + ")", x.fewest(0, 4, what), -1);
        }
        fewestIs(new SheSays(), 0, 1, -1, -1);
    }

    private static void fewestOfTen() {
        Desk.sentence("T3 SPEECHES told that may be MARKED (10 at most), FEWEST of all of them");
        SheSays x = Desk.of(FULL, "y:s>13?10");
        for (int s = 23; s >= 14; s--) {
            x.could(s);
        }
        for (int actor = 0; actor < 8; actor++) {
            x.set(actor, 1, 100);
        }
        fewestIs(x, PARTS, 24, 10, (1 << 24) - (1 << 14));
        fewestIs(x, 900000000, 24, 9, (1 << 23) - (1 << 14));
        fewestIs(x, 900000001, 24, 10, (1 << 24) - (1 << 14));
        fewestIs(x, PARTS, 23, -1, -1);
        fewestIs(x, 0, 23, 0, 0);
    }

    private static void understudyIs(SheSays x, int most, int actor, int chance) {
        Desk.due("understudy(" + most + ", 0)", x.understudy(most, 0), actor);
        Desk.due("understudy(" + most + ", 1)", x.understudy(most, 1), chance);
    }

    private static void understudy() {
        Desk.sentence("T3 UNDERSTUDY: the ACTOR (with a SPEECH in the PLAY)");
        SheSays x = Desk.of("Ax,Ax,Bx,Cx,Cx,Cx;3-5", "y:10");
        understudyIs(x, 3, 0, 900000000);
        understudyIs(Desk.of("Ax,Cx,Hx;0-0", "y:a=0?0;y:10"), 2, 2, 900000000);
        understudyIs(Desk.of("Gx,Hx", "y:a=7?10"), 2, 7, PARTS);
        understudyIs(Desk.of("Cx,Bx", ""), 1, 1, 0);
        understudyIs(Desk.of(FULL, "y:a=7?10"), 24, 7, PARTS);
        Desk.sentence("T3 makes CHANCE greatest (of several the lowest)");
        understudyIs(Desk.of("Cx,Bx,Bx,Cx", "y:10"), 4, 1, 810000000);
        understudyIs(Desk.of("Hx,Bx", ""), 2, 1, PARTS);
        understudyIs(Desk.of("Bx,Ax,Bx", "y:a=0?20;y:10"), 3, 0, 810000000);
        understudyIs(Desk.of("Bx,Ax,Bx", "y:a=0?19;y:10"), 3, 0, 810000000);
        understudyIs(Desk.of("Bx,Ax,Bx", "y:a=0?18;y:10"), 3, 1, 820000000);
        understudyIs(Desk.of("Bx,Ax,Bx", "y:a=0?20;y:10"), 2, 0, 0);
        understudyIs(Desk.of("Ax,By", "y:100"), 2, 0, 0);
        understudyIs(Desk.of("Ax,Ay", "y:100"), 2, 0, PARTS);
        Desk.sentence("25 NONE: no BOOK, out of bounds, no such what");
        x = Desk.of("Ax,By", "y:10");
        understudyIs(x, 1, 0, 0);
        understudyIs(x, 200, 0, 900000000);
        for (int most : NO_MOST) {
            understudyIs(x, most, -1, -1);
        }
        for (int what : NO_WHAT) {
            Desk.due("understudy(2, " + what + ")", x.understudy(2, what), -1);
        }
        understudyIs(new SheSays(), 1, -1, -1);
        Desk.due("FORGETS as ahead", x.speech(0, 7), 10);
    }

    private static void worst() {
        Desk.sentence("T3 WORST: the SPEECH, not MARKED, whose being MARKED makes CHANCE greatest (of several the lowest)");
        SheSays x = Desk.of("Ax,By,Cz,Dd", "y:s=2?30;y:s=3?30;y:10");
        Desk.due("worst(4)", x.worst(4), 2);
        x.mark(2, true);
        Desk.due("worst(4) of the rest", x.worst(4), 3);
        x.mark(3, true);
        Desk.due("worst(4) of as much", x.worst(4), 0);
        x.set(1, 1, 51);
        Desk.due("worst(4) by TAKE", x.worst(4), 1);
        Desk.due("worst(3) if none comes to the END", x.worst(3), 0);
        x.mark(0, true);
        x.mark(1, true);
        Desk.sentence("26 NONE: all are MARKED");
        Desk.due("worst(4) of none", x.worst(4), -1);
        x.mark(3, false);
        Desk.due("worst(4) of one", x.worst(4), 3);
        Desk.due("worst(1) of one", x.worst(1), 3);
        SheSays full = Desk.of(FULL, "y:10");
        for (int s = 0; s < 23; s++) {
            full.mark(s, true);
        }
        Desk.due("worst(200) of the last of 24", full.worst(200), 23);
        full.mark(23, true);
        Desk.due("worst(200) of none of 24", full.worst(200), -1);
        Desk.sentence("26 NONE: no BOOK, out of bounds");
        for (int most : NO_MOST) {
            Desk.due("worst(" + most + ")", x.worst(most), -1);
        }
        Desk.due("worst(1) of no BOOK", new SheSays().worst(1), -1);
        Desk.due("worst(200) of no BOOK", new SheSays().worst(200), -1);
        Desk.sentence("T3 by what its LAW makes of its being MARKED");
        Desk.due("worst(2) by m", Desk.of("Ax,By", "y:s=0&m=1?100;y:10").worst(2), 1);
        Desk.due("worst(2) if all harm", Desk.of("Ax,By", "y:m=1?100;y:10").worst(2), 0);
    }

    private static void silence() {
        Desk.sentence("T3 SILENCE: the most SECONDS between one of its SPEECHES and its next one in the PLAY");
        Desk.due("none between", Desk.of("Ax9,Ax9", "").silence(0), 0);
        Desk.due("one between", Desk.of("Ax9,Bx7,Ax9", "").silence(0), 7);
        Desk.due("the most of two", Desk.of("Ax,Bx3,Ax,Cx2,Cx2,Ax", "").silence(0), 4);
        Desk.due("the most is the first", Desk.of("Ax,Cx2,Cx2,Ax,Bx3,Ax", "").silence(0), 4);
        Desk.due("nothing ahead or behind", Desk.of("Bx99,Ax,Cx,Ax,Bx99", "").silence(0), 5);
        Desk.due("but those that are CUT", Desk.of("Ax,Bx3,Cx4,Ax;1-1", "").silence(0), 4);
        Desk.due("the longest", Desk.of("Hx," + Desk.book(22, "Ax99") + ",Hx", "").silence(7), 22 * 99);
        Desk.sentence("27 NONE: fewer than two SPEECHES");
        SheSays x = Desk.of("Ax,Bx,Ax,Cx,Cx;4-4", "");
        Desk.due("silence(1) of one", x.silence(1), -1);
        Desk.due("silence(2) of one and a CUT one", x.silence(2), -1);
        Desk.due("silence(3) of none", x.silence(3), -1);
        Desk.due("silence(7) of none", x.silence(7), -1);
        Desk.due("silence(0) of two", x.silence(0), 5);
        Desk.sentence("27 NONE: no such ACTOR, no BOOK");
        for (int actor : new int[] {-1, 8, 9, Desk.MAX, Desk.MIN}) {
            Desk.due("silence(" + actor + ")", x.silence(actor), -1);
        }
        Desk.due("silence(0) of no BOOK", new SheSays().silence(0), -1);
        Desk.due("silence(7) of no BOOK", new SheSays().silence(7), -1);
    }

    private static void spareIs(String book, int k, int where, int changed) {
        SheSays x = Desk.of(book, "");
        Desk.due("spare(" + k + ", 0) of " + book, x.spare(k, 0), where);
        Desk.due("spare(" + k + ", 1) of " + book, x.spare(k, 1), changed);
    }

    private static void spare() {
        Desk.sentence("T3 SPARE of k SPEECHES in a row of the PLAY (1 .. 8)");
        for (int k = 1; k <= 8; k++) {
            spareIs(Desk.book(24, "Ax"), k, 1, 0);
        }
        for (int k : new int[] {0, -1, 9, 10, 22, Desk.MAX, Desk.MIN}) {
            spareIs(Desk.book(24, "Ax"), k, -1, -1);
        }
        Desk.sentence("28 NONE: the PLAY is too short");
        for (int k = 1; k <= 8; k++) {
            spareIs(Desk.book(k + 2, "Ax"), k, 1, 0);
            spareIs(Desk.book(k + 2, "Aa", "Ab", "Ac"), k, 1, k % 3 == 0 ? 0 : 1);
            spareIs(Desk.book(k + 1, "Ax"), k, -1, -1);
            spareIs(Desk.book(k + 2, "Ax") + ";0-0", k, -1, -1);
        }
        spareIs("Ax,Ax", 8, -1, -1);
        Desk.sentence("T3 the first, the last SPEECH not among them");
        spareIs("Aa,Ab,Ac", 1, 1, 1);
        spareIs("Aa,Ab,Ac,Ac", 1, 1, 1);
        spareIs("Aa,Aa,Ab", 1, 1, 0);
        spareIs("Aa,Ab,Ac,Ad,Ad", 2, 1, 1);
        Desk.sentence("T3 with the fewest changed CUES: 0, if its CUE stays the same; the first such place");
        spareIs("Aa,Ab,Ac,Ac,Ad", 1, 3, 0);
        spareIs("Aa,Ab,Ac,Ad,Ac,Ae", 2, 3, 0);
        spareIs("Aa,Ab,Ac,Ac,Ac,Ad", 1, 3, 0);
        spareIs("Aa,Ab,Ac,Ad", 1, 1, 1);
        spareIs("Aa,Ab,Ac,Ad,Ae,Af,Ag,Ah,Aj,Ah,Ai", 8, 1, 1);
        spareIs("Aa,Ab,Ac,Ad,Ae,Af,Ag,Ah,Aj,Ab,Ai", 8, 2, 0);
        Desk.sentence("28 NONE: no such ones, no BOOK");
        for (int what : NO_WHAT) {
            Desk.due("spare(1, " + what + ")", Desk.of("Ax,Ax,Ax", "").spare(1, what), -1);
        }
        Desk.due("spare(1, 0) of none", new SheSays().spare(1, 0), -1);
        Desk.due("spare(8, 1) of none", new SheSays().spare(8, 1), -1);
    }

    private static void playersNear() {
        Desk.sentence("T4 no SPEECH nearer than so many (1 .. 24): their numbers' difference less than that");
        for (int difference = 1; difference <= 23; difference++) {
            // A says the first, B one of the others, H all the rest
            StringBuilder book = new StringBuilder("Ax");
            for (int i = 1; i < 24; i++) {
                book.append(i == difference ? ",Bx" : ",Hx");
            }
            SheSays x = Desk.of(book.toString(), "");
            Desk.due("players(" + difference + ", 0)", x.players(difference, 0) & 2, 2);
            Desk.due("players(" + (difference + 1) + ", 0)", x.players(difference + 1, 0) & 2, 0);
            Desk.due("players(" + difference + ", 1)", x.players(difference, 1) & 1, 1);
            Desk.due("players(" + (difference + 1) + ", 1)", x.players(difference + 1, 1) & 1, 0);
        }
        Desk.sentence("29 NONE: no such ones (near)");
        SheSays x = Desk.of(FULL, "");
        for (int near : new int[] {0, -1, 25, 26, Desk.MAX, Desk.MIN}) {
            Desk.due("players(" + near + ", -1)", x.players(near, -1), -1);
            Desk.due("players(" + near + ", 0)", x.players(near, 0), -1);
        }
        Desk.due("players(1, -1)", x.players(1, -1), 1);
        Desk.due("players(24, -1)", x.players(24, -1), 8);
        Desk.due("players(1, 0)", x.players(1, 0), 254);
        Desk.due("players(1, 7)", x.players(1, 7), 127);
        Desk.due("players(24, 7)", x.players(24, 7), 0);
    }

    private static void playersOf() {
        Desk.sentence("29 NONE: no such ones (ACTORS), it has no SPEECH, no BOOK");
        SheSays x = Desk.of("Ax,Bx,Cx,Ax;2-2", "");
        for (int actor : new int[] {2, 3, 7, 8, 9, 32, Desk.MAX, -2, -32, Desk.MIN}) {
            Desk.due("players(1, " + actor + ")", x.players(1, actor), -1);
        }
        Desk.due("players(1, 0)", x.players(1, 0), 2);
        Desk.due("players(1, -1) of no BOOK", new SheSays().players(1, -1), -1);
        Desk.due("players(1, 0) of no BOOK", new SheSays().players(1, 0), -1);
        Desk.due("players(24, -1) of one ACTOR", Desk.of("Cx,Cx", "").players(24, -1), 1);
        Desk.due("players(1, 2) of one ACTOR", Desk.of("Cx,Cx", "").players(1, 2), 0);
        Desk.due("players(24, -1) of A alone", Desk.of("Ax,Ax", "").players(24, -1), 1);
        Desk.due("players(1, -1) of H alone", Desk.of("Hx,Hx", "").players(1, -1), 1);
        Desk.sentence("T4 the fewest PLAYERS for all: each two of one player can be played by one");
        // A, B, C in a row again and again: two of them are never further than 1 or 2
        x = Desk.of("Ax,Bx,Cx,Ax,Bx,Cx", "");
        Desk.due("players(1, -1)", x.players(1, -1), 1);
        Desk.due("players(2, -1)", x.players(2, -1), 3);
        // A and C can share, C and D, but not A and D, nor B with any
        x = Desk.of("Ax,Bx,Dx,Ax,Bx,Cx", "");
        Desk.due("players(2, 0)", x.players(2, 0), 4);
        Desk.due("players(2, 2)", x.players(2, 2), 1 | 8);
        Desk.due("players(2, 3)", x.players(2, 3), 4);
        Desk.due("players(2, 1)", x.players(2, 1), 0);
        Desk.due("players(2, -1)", x.players(2, -1), 3);
        // 0 .. 7 in a row: by 4 each ACTOR shares with that four further
        x = Desk.of("Ax,Bx,Cx,Dx,Ex,Fx,Gx,Hx", "");
        for (int near = 1; near <= 24; near++) {
            Desk.due("players(" + near + ", -1)", x.players(near, -1), Math.min(near, 8));
        }
    }

    private static void shortestIs(SheSays x, int k, int said, int losses) {
        Desk.due("shortest(" + k + ", 0)", x.shortest(k, 0), said);
        Desk.due("shortest(" + k + ", 1)", x.shortest(k, 1), losses);
    }

    private static void longestIs(SheSays x, int k, int said, int losses) {
        Desk.due("longest(" + k + ", 0)", x.longest(k, 0), said);
        Desk.due("longest(" + k + ", 1)", x.longest(k, 1), losses);
    }

    private static void shortest() {
        Desk.sentence("T4 any bits with no more than k of them, k 0 .. 4; of several the least bits");
        String pairs = "Aa,Aa,Ab,Ab,Ac,Ac,Ad,Ad,Ae,Ae,Af";
        SheSays x = ofKind(1, pairs);
        // 1, 3, 5, 7, 9 LEAP to the next one: one less is said
        int[] bits = {0, 2, 10, 42, 170};
        for (int k = 0; k <= 4; k++) {
            shortestIs(x, k, 11 - k, bits[k]);
            longestIs(x, k, 11, 0);
        }
        x = ofKind(2, pairs);
        // 2, 4, 6, 8, 10 LEAP to the one ahead: one more is said
        int[] doubled = {0, 4, 20, 84, 340};
        for (int k = 0; k <= 4; k++) {
            longestIs(x, k, 11 + k, doubled[k]);
            shortestIs(x, k, 11, 0);
        }
        Desk.sentence("T4 that come to the END (a STOP is none)");
        shortestIs(Desk.of(FULL, ""), 4, 24, 0);
        shortestIs(ofKind(1, "Ax,Bx,Cx,Bx"), 4, 2, 2);
        shortestIs(ofKind(1, "Ax,Bx,Bx"), 4, 2, 2);
        shortestIs(ofKind(1, "Aa,Ba," + Desk.book(21, "Ca") + ",Ba"), 1, 2, 2);
        shortestIs(ofKind(2, "Ax,Ax"), 4, 2, 0);
        Desk.sentence("30 NONE: no BOOK, out of bounds, no such what");
        for (int k : new int[] {-1, -2, 5, 6, 24, Desk.MAX, Desk.MIN}) {
            shortestIs(x, k, -1, -1);
        }
        for (int what : NO_WHAT) {
            Desk.due("shortest(0, " + what + ")", x.shortest(0, what), -1);
        }
        shortestIs(new SheSays(), 0, -1, -1);
        shortestIs(new SheSays(), 4, -1, -1);
    }

    private static void longest() {
        Desk.sentence("T4 LONGEST: the most, likewise");
        SheSays x = ofKind(2, "Az,Aa,Ab,Ac,Ad,Ae,Af,Ag,Ah,Ai,Aj,Ak,Az,Aa,Ab,Ac,Ad,Ae,Af,Ag,Ah,Ai,Aj,Ak");
        for (int k = 0; k <= 4; k++) {
            longestIs(x, k, 24 + 12 * k, ((1 << k) - 1) << 13);
        }
        longestIs(Desk.of(FULL, ""), 4, 24, 0);
        Desk.sentence("T4 each is LOST the first time alone: no loop goes on for ever");
        longestIs(ofKind(2, LOOPED), 4, 4, 4);
        longestIs(ofKind(3, LOOPED), 4, 4, 4);
        Desk.sentence("31 NONE: no BOOK, out of bounds, no such what");
        for (int k : new int[] {-1, -2, 5, 6, 24, Desk.MAX, Desk.MIN}) {
            longestIs(x, k, -1, -1);
        }
        for (int what : NO_WHAT) {
            Desk.due("longest(0, " + what + ")", x.longest(0, what), -1);
        }
        longestIs(new SheSays(), 0, -1, -1);
        longestIs(new SheSays(), 4, -1, -1);
    }

    private static void visits() {
        Desk.sentence("T4 VISITS: parts that say a SPEECH, in all, with no more than so many said");
        SheSays x = Desk.of(LOOPED, "y:s=2?100");
        x.set(1, 0, 2);
        for (int most = 1; most <= 200; most++) {
            Desk.due("visits(1, " + most + ")", x.visits(1, most), (most - 1) * (long) PARTS);
        }
        Desk.due("visits(0, 1)", x.visits(0, 1), PARTS);
        Desk.due("visits(0, 200)", x.visits(0, 200), PARTS);
        Desk.due("visits(2, 200)", x.visits(2, 200), 0);
        x = Desk.of("Ax,Bx,Ax,Bx", "y:s=1?25;y:s=3?50");
        x.set(1, 0, 1);
        Desk.due("visits(3, 2), leapt to", x.visits(3, 2), 250000000);
        Desk.due("visits(3, 3)", x.visits(3, 3), 250000000);
        Desk.due("visits(3, 4), come to and said", x.visits(3, 4), 250000000 + 375000000);
        Desk.sentence("32 NONE: no such ones");
        for (int s : new int[] {-1, 4, 5, 24, Desk.MAX, Desk.MIN}) {
            Desk.due("visits(" + s + ", 1) of 4", x.visits(s, 1), -1);
            Desk.due("visits(" + s + ", 200) of 4", x.visits(s, 200), -1);
        }
        for (int most : NO_MOST) {
            Desk.due("visits(0, " + most + ")", x.visits(0, most), -1);
        }
        Desk.due("visits(0, 1) of none", new SheSays().visits(0, 1), -1);
        Desk.due("visits(23, 24) of 24", Desk.of(FULL, "").visits(23, 24), PARTS);
        Desk.due("visits(23, 23) of 24", Desk.of(FULL, "").visits(23, 23), 0);
        Desk.due("visits(24, 200) of 24", Desk.of(FULL, "").visits(24, 200), -1);
    }

    private static void trial() {
        Desk.sentence("T4 TRIAL: n NIGHTS (1 .. 50) by seeds 0 .. n less 1, apart");
        SheSays x = trialled();
        SheSays y = trialled();
        int[] sums = new int[3];
        for (int n = 1; n <= 50; n++) {
            sums[0] += y.night(n - 1) == 0 ? 1 : 0;
            sums[1] += y.latest(3);
            sums[2] += y.latest(1);
            for (int what = 0; what <= 2; what++) {
                Desk.due("trial(" + n + ", " + what + ")", x.trial(n, what), sums[what]);
            }
        }
        Desk.holds("something came to the END, and not all", sums[0] > 0 && sums[0] < 50);
        Desk.sentence("T4 nothing is kept of them");
        Desk.due("NIGHTS", x.count(5), 0);
        Desk.due("latest(0)", x.latest(0), -1);
        for (int s = 0; s < x.count(1); s++) {
            Desk.due("LOST of " + s, x.speech(s, 9), 0);
        }
        Desk.sentence("33 NONE: no BOOK, out of bounds, no such what");
        for (int n : new int[] {0, -1, 51, 52, Desk.MAX, Desk.MIN}) {
            Desk.due("trial(" + n + ", 0)", x.trial(n, 0), -1);
            Desk.due("trial(" + n + ", 2)", x.trial(n, 2), -1);
        }
        for (int what : new int[] {-1, 3, 4, Desk.MAX, Desk.MIN}) {
            Desk.due("trial(1, " + what + ")", x.trial(1, what), -1);
        }
        Desk.due("trial(1, 0) of none", new SheSays().trial(1, 0), -1);
        Desk.due("trial(50, 2) of none", new SheSays().trial(50, 2), -1);
        Desk.sentence("T4 the most of all together");
        x = Desk.of("Ax99,Bx99,Bx99", "y:s=2?100");
        x.set(1, 0, 2);
        Desk.due("to the END", x.trial(50, 0), 0);
        Desk.due("SECONDS", x.trial(50, 1), 50 * 200 * 99);
        Desk.due("LOST", x.trial(50, 2), 50 * 198);
    }

    private static SheSays trialled() {
        SheSays x = Desk.of("Ax9,Bx,Ax7,Bx,Cz,Bx,Ax", "y:20");
        x.set(1, 0, 3);
        x.set(0, 0, 2);
        x.mark(4, true);
        x.mark(0, true);
        return x;
    }

    private static void doubtful() {
        Desk.sentence("T4 DOUBTFUL: SPEECHES of an ACTOR that have LIKE ones: how many");
        SheSays x = Desk.of("Ax,Ax,Bx,Ay,Cx,Ay,Hy", "");
        // A's 1 and 3 are LIKE by x, 5 by x; 0 has no CUE
        Desk.due("doubtful(0)", x.doubtful(0), 3);
        Desk.due("doubtful(1)", x.doubtful(1), 0);
        Desk.due("doubtful(2)", x.doubtful(2), 0);
        Desk.due("doubtful(3) of no SPEECH", x.doubtful(3), 0);
        Desk.due("doubtful(7)", x.doubtful(7), 0);
        Desk.due("doubtful(0) of 24", Desk.of(Desk.book(24, "Ax"), "").doubtful(0), 23);
        Desk.due("doubtful(7) of 24", Desk.of(FULL, "").doubtful(7), 3);
        Desk.due("doubtful(0) of 24, the first being like none", Desk.of(FULL, "").doubtful(0), 2);
        Desk.due("doubtful(0) of two", Desk.of("Ax,Ax", "").doubtful(0), 0);
        Desk.due("doubtful(0) if one is CUT", Desk.of("Ax,Ax,Ax;2-2", "").doubtful(0), 0);
        Desk.sentence("34 NONE: no such ACTOR, no BOOK");
        for (int actor : new int[] {-1, 8, 9, Desk.MAX, Desk.MIN}) {
            Desk.due("doubtful(" + actor + ")", x.doubtful(actor), -1);
        }
        Desk.due("doubtful(0) of none", new SheSays().doubtful(0), -1);
        Desk.due("doubtful(7) of none", new SheSays().doubtful(7), -1);
    }

    private static void rewordIs(String book, int many, int first) {
        SheSays x = Desk.of(book, "");
        Desk.due("reword(0) of " + book, x.reword(0), many);
        Desk.due("reword(1) of " + book, x.reword(1), first);
    }

    private static void reword() {
        Desk.sentence("T4 REWORD: the fewest WORDS; in each row of LIKE ones the CUE of the first one stays");
        rewordIs("Ax,Ax,Ax", 1, 1);
        rewordIs("Ax,Ax,Ax,Ax", 2, 1);
        rewordIs("Ax,Bx,Ax,Bx", 1, 2);
        rewordIs("Bx,Ax,By,Ay,Bx,Ax", 1, 4);
        rewordIs("Bx,Ay,Bx,Ay,By,Cy,By", 3, 2);
        rewordIs(Desk.book(24, "Ax"), 22, 1);
        rewordIs(FULL, 15, 8);
        Desk.sentence("35 the first SPEECH whose WORD is such (1; NONE: none)");
        rewordIs("Ax,Ax", 0, -1);
        rewordIs("Ax,By,Ax", 0, -1);
        rewordIs("Ax,Ax,Ax;1-1", 0, -1);
        Desk.sentence("35 HIDDEN: no BOOK, no such what");
        for (int what : NO_WHAT) {
            Desk.due("reword(" + what + ")", Desk.of("Ax,Ax,Ax", "").reword(what), -1000000);
        }
        Desk.due("reword(0) of none", new SheSays().reword(0), -1000000);
        Desk.due("reword(1) of none", new SheSays().reword(1), -1000000);
    }

    private static void imageAndBack() {
        Desk.sentence("36 how many are MARKED. NONE: no BOOK");
        Desk.due("image() of none", new SheSays().image(), -1);
        SheSays x = Desk.of(FULL, "y:100");
        Desk.due("image() of none MARKED", x.image(), 0);
        for (int s = 0; s < 24; s++) {
            x.mark(s, true);
        }
        Desk.due("back() to none MARKED", x.back(), 0);
        Desk.due("count(6)", x.count(6), 0);
        for (int s = 0; s < 24; s++) {
            x.mark(s, true);
        }
        Desk.due("image() of 24 MARKED", x.image(), 24);
        x.learn(0);
        Desk.due("count(6)", x.count(6), 0);
        Desk.due("back() to 24 MARKED", x.back(), 24);
        Desk.due("count(6)", x.count(6), 24);
        Desk.sentence("37 NONE: no IMAGE of this BOOK");
        Desk.due("back() of none", new SheSays().back(), -1);
        Desk.due("back() of no IMAGE", Desk.of("Ax,By", "").back(), -1);
        SheSays failed = new SheSays();
        failed.image();
        Desk.due("an IMAGE without a BOOK is none", failed.back(), -1);
        Desk.take(failed, 0, "Ax,By");
        Desk.due("an IMAGE without a BOOK is none later", failed.back(), -1);
        Desk.take(x, 0, "Ax,By");
        Desk.due("back() of another BOOK's", x.back(), -1);
        Desk.sentence("T3 An IMAGE keeps MARKS and how often SPEECHES were LOST; BACK: they are so again");
        x = Desk.of("Ax,By,Cz", "y:100");
        x.set(0, 1, 100);
        x.mark(0, true);
        x.night(1);
        x.could(2);
        Desk.due("image()", x.image(), 1);
        x.night(1);
        x.mark(0, false);
        x.mark(1, true);
        x.mark(2, true);
        x.could(1);
        x.night(1);
        Desk.due("back()", x.back(), 1);
        int[] lost = {1, 1, 0};
        int[] marked = {1, 0, 0};
        for (int s = 0; s < 3; s++) {
            Desk.due("LOST of " + s, x.speech(s, 9), lost[s]);
            Desk.due("MARKED " + s, x.speech(s, 6), marked[s]);
        }
        Desk.due("NIGHTS", x.count(5), 3);
        Desk.due("latest(1)", x.latest(1), 1);
        Desk.due("COULD", x.count(7), 2);
        Desk.sentence("T3 BACK more than once, and what is LOST behind it");
        x.night(1);
        Desk.due("LOST of 0", x.speech(0, 9), 2);
        Desk.due("back() again", x.back(), 1);
        Desk.due("LOST of 0", x.speech(0, 9), 1);
        Desk.due("back() once more", x.back(), 1);
        Desk.due("LOST of 0", x.speech(0, 9), 1);
        Desk.sentence("36 An IMAGE (instead of the one ahead)");
        x.mark(2, true);
        Desk.due("another image()", x.image(), 2);
        x.learn(0);
        Desk.due("back() to the other", x.back(), 2);
        Desk.due("MARKED 2", x.speech(2, 6), 1);
    }

    private static void anotherBook() {
        Desk.sentence("5 all that was of another one is gone but LAWS, which of them holds, KINDS, TAKE");
        SheSays x = Desk.of("Ax,Bx,Ax,Bx", "y:100");
        Desk.take(x, 1, "y:50");
        x.law(1);
        x.set(1, 0, 1);
        x.set(1, 1, 40);
        for (int s = 0; s < 4; s++) {
            x.mark(s, true);
            x.could(s);
        }
        x.night(5);
        x.image();
        Desk.due("the same BOOK once more", Desk.take(x, 0, "Ax,Bx,Ax,Bx"), 4);
        int[] counts = {4, 4, 2, 0, 1, 0, 0, 0};
        for (int what = 0; what < counts.length; what++) {
            Desk.due("count(" + what + ")", x.count(what), counts[what]);
        }
        Desk.due("latest(0)", x.latest(0), -1);
        Desk.due("back()", x.back(), -1);
        for (int s = 0; s < 4; s++) {
            Desk.due("LOST of " + s, x.speech(s, 9), 0);
            Desk.due("MARKED " + s, x.speech(s, 6), 0);
            Desk.due("FORGETS of " + s, x.speech(s, 7), 50);
        }
        Desk.due("leap(1)", x.leap(1), 3);
        Desk.due("could(3)", x.could(3), 1);
        x.mark(1, true);
        // 500 come to 1, 250 are LOST, 100 of them SAVED
        Desk.due("visits(1, 2)", x.visits(1, 2), 350000000);
        Desk.due("learn of no NIGHT", x.learn(24), 0);
        Desk.sentence("5 a shorter BOOK has nothing of a longer one");
        Desk.take(x, 0, Desk.book(24, "Bx99"));
        Desk.take(x, 0, "Ax,Bx");
        Desk.due("count(1)", x.count(1), 2);
        Desk.due("leap(1)", x.leap(1), -1);
        Desk.due("speech(1, 5)", x.speech(1, 5), 0);
        Desk.due("speech(1, 2)", x.speech(1, 2), 5);
        Desk.due("evening(4, -1)", x.evening(4, -1), -1);
        Desk.due("stops()", x.stops(), 3);
        Desk.due("silence(1)", x.silence(1), -1);
        Desk.due("ends(0, 2)", x.ends(0, 2), 10);
        Desk.due("chance(2)", x.chance(2), 250000000);
        Desk.due("CUTS are gone", Desk.take(x, 0, "Ax,Bx,Cx;0-0") + Desk.take(x, 0, "Ax,Bx,Cx"), 5);
    }

    private static void count() {
        Desk.sentence("38 0 SPEECHES of the BOOK .. 7 how many COULD be: the fullest");
        SheSays x = new SheSays();
        for (int law = 0; law < 4; law++) {
            Desk.take(x, 1, "y:100");
        }
        x.law(3);
        Desk.take(x, 0, FULL + ";0-0");
        for (int s = 0; s < 23; s++) {
            x.mark(s, true);
            x.could(s);
            x.night(s);
        }
        Desk.feed(x, Desk.times(160, " "));
        int[] want = {24, 23, 4, 160, 3, 23, 23, 10};
        for (int what = 0; what < want.length; what++) {
            Desk.due("count(" + what + ")", x.count(what), want[what]);
        }
        Desk.sentence("38 HIDDEN for others");
        for (int what : new int[] {-1, 8, 9, Desk.MAX, Desk.MIN}) {
            Desk.due("count(" + what + ")", x.count(what), -1000000);
            Desk.due("count(" + what + ") of a new one", new SheSays().count(what), -1000000);
        }
        Desk.sentence("the constants");
        Desk.due("NONE", SheSays.NONE, -1);
        Desk.due("HIDDEN", SheSays.HIDDEN, -1000000);
    }
}
