import java.util.Arrays;
import java.util.NoSuchElementException;

/** A prompt book of speeches: what is said, what is lost, and how likely the end of the play is. */
public final class SheSays {
    public static final int NONE = -1;
    public static final int HIDDEN = -1000000;

    private static final int MOST_BYTES = 160;
    private static final int MOST_SPEECHES = 24;
    private static final int MOST_ACTORS = 8;
    private static final int MOST_LAWS = 4;
    private static final int MOST_SAID = 200;
    private static final int MOST_COULD = 10;
    private static final int MOST_NIGHTS = 50;
    private static final int MOST_LOSSES_OF_ROWS = 6;
    private static final int MOST_LOSSES_OF_EVENINGS = 4;
    private static final int MOST_SPARE = 8;
    private static final int PARTS = 1000000000;

    /** The ways in which an evening or a night ends. */
    private static final int THE_END = 0;
    private static final int STOP = 1;
    private static final int TOO_MANY = 2;

    private final Tape tape;
    private final BookReader bookReader;
    private final LawReader lawReader;
    private final Law[] laws;
    private final Play play;
    private final Leaps leaps;
    private final Notes notes;
    private final Evening eveningWalk;
    private final Night latestNight;
    private final Night trialNight;
    private final Odds odds;
    private int lawCount;
    private int lawHeld;

    public SheSays() {
        tape = new Tape();
        bookReader = new BookReader(tape);
        lawReader = new LawReader(tape);
        laws = new Law[MOST_LAWS];
        for (int i = 0; i < laws.length; i++) {
            laws[i] = new Law();
        }
        play = new Play();
        leaps = new Leaps(play);
        notes = new Notes();
        eveningWalk = new Evening(play, leaps);
        latestNight = new Night(play, leaps);
        trialNight = new Night(play, leaps);
        odds = new Odds(play, leaps);
        lawHeld = NONE;
    }

    public int feed(int a, int b, int c, int d, int e) {
        int more = Tape.bytesIn(a) + Tape.bytesIn(b) + Tape.bytesIn(c) + Tape.bytesIn(d) + Tape.bytesIn(e);
        if (tape.size + more > MOST_BYTES) {
            return NONE;
        }
        tape.append(a);
        tape.append(b);
        tape.append(c);
        tape.append(d);
        tape.append(e);
        return tape.size;
    }

    public boolean end(int n) {
        if (n < 0 || n > tape.size) {
            return false;
        }
        tape.size = n;
        return true;
    }

    public int fault(int sort) {
        switch (sort) {
            case 0: return bookReader.read();
            case 1: return lawReader.read();
            default: return -2;
        }
    }

    public int text(int sort) {
        if (sort == 0 && bookReader.read() == NONE) {
            return takeBook();
        }
        if (sort == 1 && lawCount < laws.length && lawReader.read() == NONE) {
            tape.size = 0;
            laws[lawCount].put(lawReader);
            lawCount++;
            return lawCount - 1;
        }
        return NONE;
    }

    private int takeBook() {
        tape.size = 0;
        play.put(bookReader);
        play.weigh(heldLaw());
        leaps.plan();
        notes.clear();
        return play.size;
    }

    private Law heldLaw() {
        return lawHeld >= 0 && lawHeld < laws.length ? laws[lawHeld] : null;
    }

    public int speech(int speech, int what) throws NoSuchElementException {
        if (!play.has(speech) || what < 0 || what > 9) {
            throw new NoSuchElementException("no such SPEECH of the PLAY, or nothing such told of it");
        }
        switch (what) {
            case 0: return play.actor[speech];
            case 1: return play.word[speech];
            case 2: return play.length[speech];
            case 3: return play.cue[speech];
            case 4: return play.gap[speech];
            case 5: return play.likes[speech];
            case 6: return notes.isMarked(speech) ? 1 : 0;
            case 7: return play.forgets(speech, notes.isMarked(speech));
            case 8: return play.place[speech];
            default: return notes.timesLost[speech];
        }
    }

    public boolean law(int law) {
        if (law < NONE || law >= lawCount) {
            return false;
        }
        lawHeld = law;
        play.weigh(heldLaw());
        return true;
    }

    public boolean set(int actor, int what, int v) {
        if (!isActor(actor) || v < 0) {
            return false;
        }
        if (what == 0 && v <= 3) {
            leaps.kind[actor] = v;
            leaps.plan();
            return true;
        }
        if (what == 1 && v <= 100) {
            leaps.take[actor] = v;
            return true;
        }
        return false;
    }

    private static boolean isActor(int actor) {
        return actor >= 0 && actor < MOST_ACTORS;
    }

    public boolean mark(int speech, boolean is) {
        if (!play.has(speech) || notes.isMarked(speech) == is) {
            return false;
        }
        notes.marked ^= 1 << speech;
        return true;
    }

    public int leap(int speech) {
        return play.has(speech) ? leaps.to[speech] : HIDDEN;
    }

    public int evening(int losses, int i) {
        if (!play.hasAll(losses) || i < NONE) {
            return NONE;
        }
        eveningWalk.play(losses);
        if (i == NONE) {
            return eveningWalk.said;
        }
        return i < eveningWalk.said && i < eveningWalk.row.length ? eveningWalk.row[i] : NONE;
    }

    public int ends(int losses, int what) {
        if (!play.hasAll(losses) || what < 0 || what > 2) {
            return HIDDEN;
        }
        eveningWalk.play(losses);
        switch (what) {
            case 0: return eveningWalk.ending;
            case 1: return eveningWalk.stoppedAt;
            default: return eveningWalk.seconds;
        }
    }

    public int night(long seed) {
        if (play.size == 0) {
            return NONE;
        }
        latestNight.play(seed, notes.marked);
        notes.keep(latestNight);
        return latestNight.ending;
    }

    public int latest(int what) {
        if (notes.nights == 0) {
            return NONE;
        }
        switch (what) {
            case 0: return latestNight.said;
            case 1: return latestNight.lost;
            case 2: return latestNight.saved;
            case 3: return latestNight.secondsInAll();
            case 4: return latestNight.leapt;
            default: return NONE;
        }
    }

    public int learn(int k) {
        if (play.size == 0 || k < 0 || k > MOST_SPEECHES) {
            return NONE;
        }
        notes.markMostLost(k);
        return Integer.bitCount(notes.marked);
    }

    public int loop(int what) {
        return what == 0 || what == 1 ? leaps.shortestLoop(what == 0) : NONE;
    }

    public int hole(int what) {
        return what == 0 || what == 1 ? leaps.longestHole(what == 0) : NONE;
    }

    public int stops() {
        return play.size == 0 ? NONE : leaps.whichLeapTo(NONE);
    }

    public int from(int speech) {
        return play.has(speech) ? leaps.whichLeapTo(speech) : NONE;
    }

    public int rows(int k) {
        return play.size == 0 || k < 0 || k > MOST_LOSSES_OF_ROWS ? NONE : leaps.rowsWith(k);
    }

    public int chance(int most) {
        if (play.size == 0 || !isMostSaid(most)) {
            return NONE;
        }
        return odds.chanceWith(notes.marked, most);
    }

    private static boolean isMostSaid(int most) {
        return most >= 1 && most <= MOST_SAID;
    }

    public int mean(int speech, int most) {
        if (!play.has(speech) || !isMostSaid(most)) {
            return NONE;
        }
        odds.chanceWith(notes.marked, most);
        return (int) odds.stopped[speech];
    }

    public int could(int speech) {
        if (!play.has(speech) || notes.couldBe(speech) || Integer.bitCount(notes.could) >= MOST_COULD) {
            return NONE;
        }
        notes.could |= 1 << speech;
        return Integer.bitCount(notes.could);
    }

    public int fewest(int parts, int most, int what) {
        if (play.size == 0 || !isMostSaid(most) || parts < 0 || parts > PARTS || what < 0 || what > 1) {
            return NONE;
        }
        int marks = odds.fewestMarks(parts, most, notes.marked & ~notes.could, notes.could);
        return marks == NONE || what == 1 ? marks : Integer.bitCount(marks);
    }

    public int understudy(int most, int what) {
        if (play.size == 0 || !isMostSaid(most) || what < 0 || what > 1) {
            return NONE;
        }
        int best = NONE;
        int bestChance = NONE;
        for (int actor = 0; actor < MOST_ACTORS; actor++) {
            int chance = play.hasActor(actor) ? odds.chanceIfSure(actor, notes.marked, most) : NONE;
            if (chance > bestChance) {
                best = actor;
                bestChance = chance;
            }
        }
        return what == 0 ? best : bestChance;
    }

    public int worst(int most) {
        if (play.size == 0 || !isMostSaid(most)) {
            return NONE;
        }
        int best = NONE;
        int bestChance = NONE;
        for (int speech = 0; speech < play.size; speech++) {
            int chance = notes.isMarked(speech) ? NONE : odds.chanceWith(notes.marked | 1 << speech, most);
            if (chance > bestChance) {
                best = speech;
                bestChance = chance;
            }
        }
        return best;
    }

    public int silence(int actor) {
        return isActor(actor) ? play.longestSilence(actor) : NONE;
    }

    public int spare(int k, int what) {
        if (k < 1 || k > MOST_SPARE || what < 0 || what > 1) {
            return NONE;
        }
        int place = play.sparePlace(k);
        if (place == NONE || what == 0) {
            return place;
        }
        return play.changesCue(place, k) ? 1 : 0;
    }

    public int players(int near, int actor) {
        if (play.size == 0 || near < 1 || near > MOST_SPEECHES) {
            return NONE;
        }
        play.findSharers(near);
        if (actor == NONE) {
            return play.fewestPlayers();
        }
        return isActor(actor) && play.hasActor(actor) ? play.sharers[actor] : NONE;
    }

    public int shortest(int k, int what) {
        return extreme(k, what, false);
    }

    public int longest(int k, int what) {
        return extreme(k, what, true);
    }

    private int extreme(int k, int what, boolean longest) {
        if (play.size == 0 || k < 0 || k > MOST_LOSSES_OF_EVENINGS || what < 0 || what > 1) {
            return NONE;
        }
        eveningWalk.search(k, longest);
        return what == 0 ? eveningWalk.bestSaid : eveningWalk.bestLosses;
    }

    public long visits(int speech, int most) {
        if (!play.has(speech) || !isMostSaid(most)) {
            return NONE;
        }
        odds.chanceWith(notes.marked, most);
        return odds.saidParts[speech];
    }

    public int trial(int n, int what) {
        if (play.size == 0 || n < 1 || n > MOST_NIGHTS || what < 0 || what > 2) {
            return NONE;
        }
        int sum = 0;
        for (int seed = 0; seed < n; seed++) {
            trialNight.play(seed, notes.marked);
            switch (what) {
                case 0: sum += trialNight.ending == THE_END ? 1 : 0; break;
                case 1: sum += trialNight.secondsInAll(); break;
                default: sum += trialNight.lost; break;
            }
        }
        return sum;
    }

    public int doubtful(int actor) {
        return play.size == 0 || !isActor(actor) ? NONE : play.doubtfulOf(actor);
    }

    public int reword(int what) {
        if (play.size == 0 || what < 0 || what > 1) {
            return HIDDEN;
        }
        return what == 0 ? play.wordsToChange() : play.firstWordToChange();
    }

    public int image() {
        if (play.size == 0) {
            return NONE;
        }
        notes.keepImage();
        return Integer.bitCount(notes.marked);
    }

    public int back() {
        if (!notes.hasImage) {
            return NONE;
        }
        notes.goBack();
        return Integer.bitCount(notes.marked);
    }

    public int count(int what) {
        switch (what) {
            case 0: return play.bookSize;
            case 1: return play.size;
            case 2: return lawCount;
            case 3: return tape.size;
            case 4: return lawHeld;
            case 5: return notes.nights;
            case 6: return Integer.bitCount(notes.marked);
            case 7: return Integer.bitCount(notes.could);
            default: return HIDDEN;
        }
    }

    /** The bytes that were fed, and the place at which a reader stands in them. */
    private static final class Tape {
        /** No byte of a tape is 0, so 0 can stand for the end of the text. */
        static final int END_OF_TEXT = 0;

        private final int[] bytes = new int[MOST_BYTES];
        int size;
        int at;

        static int bytesIn(int number) {
            int found = 0;
            for (int shift = 24; shift >= 0; shift -= 8) {
                found += (number >>> shift & 255) != 0 ? 1 : 0;
            }
            return found;
        }

        void append(int number) {
            for (int shift = 24; shift >= 0; shift -= 8) {
                int value = number >>> shift & 255;
                if (value != 0 && size < bytes.length) {
                    bytes[size] = value;
                    size++;
                }
            }
        }

        int here() {
            return at >= 0 && at < size && at < bytes.length ? bytes[at] : END_OF_TEXT;
        }

        /** The next byte that is no blank. */
        int sign() {
            while (at < size && here() == ' ') {
                at++;
            }
            return here();
        }

        boolean takes(int sign) {
            if (sign() != sign) {
                return false;
            }
            at++;
            return true;
        }

        static boolean isDigit(int sign) {
            return sign >= '0' && sign <= '9';
        }

        /** Of the digits from here on. NONE, with the place at the wrong byte: there is none, or one too many. */
        int number(int mostDigits) {
            int value = 0;
            int digits = 0;
            while (digits < mostDigits && isDigit(here())) {
                value = value * 10 + here() - '0';
                digits++;
                at++;
            }
            return digits == 0 || isDigit(here()) ? NONE : value;
        }

        /** Refuses the number just read, which is wrong at its last digit. */
        boolean refuseNumber() {
            at--;
            return false;
        }
    }

    /** Reads the tape as a BOOK. What it read stands in its rows until it reads again. */
    private static final class BookReader {
        private static final int DIGITS = 2;
        private static final int USUAL_LENGTH = 5;

        private final Tape tape;
        final int[] actor = new int[MOST_SPEECHES];
        final int[] word = new int[MOST_SPEECHES];
        final int[] length = new int[MOST_SPEECHES];
        final boolean[] isCut = new boolean[MOST_SPEECHES];
        int speeches;
        private int left;
        private int lastCut;

        BookReader(Tape tape) {
            this.tape = tape;
        }

        /** The FAULT, or NONE. */
        int read() {
            tape.at = 0;
            speeches = 0;
            for (int i = 0; i < isCut.length; i++) {
                isCut[i] = false;
            }
            if (!readSpeeches()) {
                return tape.at;
            }
            if (tape.takes(';') && !readCuts()) {
                return tape.at;
            }
            return tape.sign() == Tape.END_OF_TEXT ? NONE : tape.at;
        }

        private boolean readSpeeches() {
            for (int i = 0; i < MOST_SPEECHES; i++) {
                if (i > 0 && !tape.takes(',')) {
                    break;
                }
                if (!readSpeech(i)) {
                    return false;
                }
                speeches++;
            }
            return speeches > 1;
        }

        private boolean readSpeech(int i) {
            int name = tape.sign();
            if (name < 'A' || name > 'H') {
                return false;
            }
            tape.at++;
            int letter = tape.sign();
            if (letter < 'a' || letter > 'z') {
                return false;
            }
            tape.at++;
            if (i < 0 || i >= MOST_SPEECHES) {
                return false;
            }
            actor[i] = name - 'A';
            word[i] = letter - 'a';
            length[i] = USUAL_LENGTH;
            return !Tape.isDigit(tape.sign()) || readLength(i);
        }

        private boolean readLength(int i) {
            int value = tape.number(DIGITS);
            if (value == NONE) {
                return false;
            }
            if (value < 1) {
                return tape.refuseNumber();
            }
            length[i] = value;
            return true;
        }

        private boolean readCuts() {
            left = speeches;
            lastCut = NONE;
            for (int i = 0; i < MOST_SPEECHES; i++) {
                if (i > 0 && !tape.takes(',')) {
                    return true;
                }
                if (!readCut()) {
                    return false;
                }
            }
            return true;
        }

        private boolean readCut() {
            tape.sign();
            int first = tape.number(DIGITS);
            if (first == NONE) {
                return false;
            }
            if (first <= lastCut || first >= speeches) {
                return tape.refuseNumber();
            }
            if (!tape.takes('-')) {
                return false;
            }
            tape.sign();
            int last = tape.number(DIGITS);
            if (last == NONE) {
                return false;
            }
            left -= last - first + 1;
            if (last < first || last >= speeches || left < 2) {
                return tape.refuseNumber();
            }
            for (int i = first; i <= last && i < MOST_SPEECHES; i++) {
                isCut[i] = true;
            }
            lastCut = last;
            return true;
        }
    }

    /**
     * Reads the tape as a LAW and writes it down with each sign behind what it joins:
     * a clause as CONDITION ? SUM ; or as SUM ; alone, a number as itself and NUMBER.
     */
    private static final class LawReader {
        private static final int DIGITS = 4;
        private static final int DEEPEST = 6;

        private final Tape tape;
        final int[] code = new int[Law.MOST_CODE];
        int size;

        LawReader(Tape tape) {
            this.tape = tape;
        }

        /** The FAULT, or NONE. */
        int read() {
            tape.at = 0;
            size = 0;
            for (int i = 0; i < MOST_BYTES; i++) {
                if (!readClause()) {
                    return tape.at;
                }
                write(';');
                if (!tape.takes(';')) {
                    break;
                }
            }
            return tape.sign() == Tape.END_OF_TEXT ? NONE : tape.at;
        }

        private void write(int sign) {
            if (size < code.length) {
                code[size] = sign;
                size++;
            }
        }

        private boolean readClause() {
            if (!tape.takes('y') || !tape.takes(':')) {
                return false;
            }
            int sign = tape.sign();
            boolean startsWithSum = sign != '!' && sign != '(';
            if (startsWithSum) {
                if (!readSum(0)) {
                    return false;
                }
                if (!atComparison()) {
                    return true;
                }
            }
            if (!readCondition(0, startsWithSum) || !tape.takes('?')) {
                return false;
            }
            write('?');
            return readSum(0);
        }

        private boolean atComparison() {
            int sign = tape.sign();
            return sign == '=' || sign == '<' || sign == '>';
        }

        /** A CONDITION whose first SUM may have been read ahead: only behind it a clause tells whether it has one. */
        private boolean readCondition(int depth, boolean sumIsRead) {
            if (!readTruth(depth, sumIsRead)) {
                return false;
            }
            for (int i = 0; i < MOST_BYTES && tape.takes('|'); i++) {
                if (!readTruth(depth, false)) {
                    return false;
                }
                write('|');
            }
            return true;
        }

        private boolean readTruth(int depth, boolean sumIsRead) {
            if (!readUnit(depth, sumIsRead)) {
                return false;
            }
            for (int i = 0; i < MOST_BYTES && tape.takes('&'); i++) {
                if (!readUnit(depth, false)) {
                    return false;
                }
                write('&');
            }
            return true;
        }

        private boolean readUnit(int depth, boolean sumIsRead) {
            int sign = tape.sign();
            if (!sumIsRead && (sign == '!' || sign == '(')) {
                return readNested(depth, sign);
            }
            if (!sumIsRead && !readSum(depth) || !atComparison()) {
                return false;
            }
            int comparison = tape.here();
            tape.at++;
            if (!readSum(depth)) {
                return false;
            }
            write(comparison);
            return true;
        }

        private boolean readNested(int depth, int sign) {
            if (depth >= DEEPEST) {
                return false;
            }
            tape.at++;
            if (sign == '(') {
                return readCondition(depth + 1, false) && tape.takes(')');
            }
            if (!readUnit(depth + 1, false)) {
                return false;
            }
            write('!');
            return true;
        }

        private boolean readSum(int depth) {
            if (!readTerm(depth)) {
                return false;
            }
            for (int i = 0; i < MOST_BYTES; i++) {
                int sign = tape.sign();
                if (sign != '+' && sign != '-') {
                    return true;
                }
                tape.at++;
                if (!readTerm(depth)) {
                    return false;
                }
                write(sign);
            }
            return true;
        }

        private boolean readTerm(int depth) {
            if (!readAtom(depth)) {
                return false;
            }
            for (int i = 0; i < MOST_BYTES; i++) {
                int sign = tape.sign();
                if (sign != '*' && sign != '/') {
                    return true;
                }
                tape.at++;
                if (!readAtom(depth)) {
                    return false;
                }
                write(sign);
            }
            return true;
        }

        private boolean readAtom(int depth) {
            int sign = tape.sign();
            if (Law.isLetter(sign)) {
                tape.at++;
                write(sign);
                return true;
            }
            if (sign == '[') {
                if (depth >= DEEPEST) {
                    return false;
                }
                tape.at++;
                return readSum(depth + 1) && tape.takes(']');
            }
            int value = tape.number(DIGITS);
            if (value == NONE) {
                return false;
            }
            write(Law.NUMBER + value);
            return true;
        }
    }

    /** A LAW as LawReader writes it down, worked off on a stack. */
    private static final class Law {
        /** Each byte of a tape gives one sign at most; y gives none, and leaves room for the end of its clause. */
        static final int MOST_CODE = MOST_BYTES;
        /** What is added to numbers, to tell them from signs. */
        static final int NUMBER = 1000;
        private static final int MOST_VALUE = 1000000;

        private final int[] code = new int[MOST_CODE];
        private int size;
        /** A level leaves at most five values waiting for what stands behind, and there are seven. */
        private final int[] stack = new int[64];
        private int top;

        static boolean isLetter(int sign) {
            return sign == 'a' || sign == 's' || sign == 'l' || sign == 'g' || sign == 'c' || sign == 'm';
        }

        void put(LawReader reader) {
            size = Math.min(reader.size, code.length);
            for (int i = 0; i < size; i++) {
                code[i] = reader.code[i];
            }
        }

        int worth(Play play, int speech, boolean marked) {
            top = 0;
            boolean skips = false;
            for (int i = 0; i < size; i++) {
                int sign = code[i];
                if (skips) {
                    skips = sign != ';';
                } else if (sign == ';') {
                    return pop();
                } else if (sign == '?') {
                    skips = pop() == 0;
                } else {
                    work(sign, play, speech, marked);
                }
            }
            return 0;
        }

        private void work(int sign, Play play, int speech, boolean marked) {
            if (sign >= NUMBER) {
                push(sign - NUMBER);
            } else if (isLetter(sign)) {
                push(play.letter(sign, speech, marked));
            } else if (sign == '!') {
                push(pop() == 0 ? 1 : 0);
            } else {
                int right = pop();
                int left = pop();
                push(join(left, sign, right));
            }
        }

        private void push(int value) {
            if (top < stack.length) {
                stack[top] = value;
                top++;
            }
        }

        private int pop() {
            if (top <= 0) {
                return 0;
            }
            top--;
            return stack[top];
        }

        private static int join(int left, int sign, int right) {
            switch (sign) {
                case '+': return within((long) left + right);
                case '-': return within((long) left - right);
                case '*': return within((long) left * right);
                case '/': return right == 0 ? 0 : left / right;
                case '=': return left == right ? 1 : 0;
                case '<': return left < right ? 1 : 0;
                case '>': return left > right ? 1 : 0;
                case '&': return left & right;
                default: return left | right;
            }
        }

        private static int within(long value) {
            return value > MOST_VALUE ? MOST_VALUE : value < -MOST_VALUE ? -MOST_VALUE : (int) value;
        }
    }

    /** The SPEECHES that are not CUT, and what follows from their rows alone. */
    private static final class Play {
        int bookSize;
        int size;
        final int[] actor = new int[MOST_SPEECHES];
        final int[] word = new int[MOST_SPEECHES];
        final int[] length = new int[MOST_SPEECHES];
        final int[] place = new int[MOST_SPEECHES];
        final int[] cue = new int[MOST_SPEECHES];
        final int[] gap = new int[MOST_SPEECHES];
        final int[] likes = new int[MOST_SPEECHES];
        private final int[] forgetsBare = new int[MOST_SPEECHES];
        private final int[] forgetsMarked = new int[MOST_SPEECHES];
        /** Of each ACTOR: with whom it can share a player. */
        final int[] sharers = new int[MOST_ACTORS];
        /** Of each set of ACTORS: how many players it needs. */
        private final int[] needed = new int[1 << MOST_ACTORS];

        void put(BookReader reader) {
            bookSize = Math.min(reader.speeches, MOST_SPEECHES);
            size = 0;
            for (int i = 0; i < bookSize; i++) {
                if (!reader.isCut[i]) {
                    actor[size] = reader.actor[i];
                    word[size] = reader.word[i];
                    length[size] = reader.length[i];
                    place[size] = i;
                    cue[size] = size == 0 ? NONE : word[size - 1];
                    gap[size] = gapOf(size);
                    size++;
                }
            }
            for (int i = 0; i < size; i++) {
                likes[i] = likesOf(i);
            }
        }

        private int gapOf(int speech) {
            for (int i = speech - 1; i >= 0; i--) {
                if (actor[i] == actor[speech]) {
                    return speech - i - 1;
                }
            }
            return speech;
        }

        private int likesOf(int speech) {
            int found = 0;
            for (int i = 0; i < size; i++) {
                found += alike(i, speech) ? 1 : 0;
            }
            return found;
        }

        boolean has(int speech) {
            return speech >= 0 && speech < size;
        }

        /** Whether there is a BOOK and all these bits are SPEECHES. */
        boolean hasAll(int speeches) {
            return size > 0 && speeches >= 0 && speeches >> size == 0;
        }

        /** The ACTORS with a SPEECH, as bits. */
        private int actors() {
            int found = 0;
            for (int i = 0; i < size; i++) {
                found |= 1 << actor[i];
            }
            return found;
        }

        boolean hasActor(int name) {
            return name >= 0 && name < MOST_ACTORS && (actors() >> name & 1) != 0;
        }

        boolean alike(int i, int j) {
            return has(i) && has(j) && i != j && actor[i] == actor[j] && cue[i] == cue[j] && cue[i] != NONE;
        }

        /** NONE, if no LIKE one stands ahead. */
        int lastLikeAhead(int speech) {
            for (int i = speech - 1; i >= 0; i--) {
                if (alike(i, speech)) {
                    return i;
                }
            }
            return NONE;
        }

        /** NONE, if no LIKE one stands behind. */
        int firstLikeBehind(int speech) {
            for (int i = speech + 1; i < size; i++) {
                if (alike(i, speech)) {
                    return i;
                }
            }
            return NONE;
        }

        int letter(int sign, int speech, boolean marked) {
            if (!has(speech)) {
                return 0;
            }
            switch (sign) {
                case 'a': return actor[speech];
                case 's': return speech;
                case 'l': return length[speech];
                case 'g': return gap[speech];
                case 'c': return likes[speech];
                default: return marked ? 1 : 0;
            }
        }

        /** Works FORGETS out by the LAW that holds; null is none. */
        void weigh(Law law) {
            for (int i = 0; i < size; i++) {
                forgetsBare[i] = law == null ? 0 : percent(law.worth(this, i, false));
                forgetsMarked[i] = law == null ? 0 : percent(law.worth(this, i, true));
            }
        }

        private static int percent(int value) {
            return Math.max(0, Math.min(100, value));
        }

        int forgets(int speech, boolean marked) {
            if (!has(speech)) {
                return 0;
            }
            return marked ? forgetsMarked[speech] : forgetsBare[speech];
        }

        int longestSilence(int name) {
            int most = NONE;
            int silent = NONE;
            for (int i = 0; i < size; i++) {
                if (actor[i] == name) {
                    most = Math.max(most, silent);
                    silent = 0;
                } else if (silent != NONE) {
                    silent += length[i];
                }
            }
            return most;
        }

        /** NONE, if the PLAY is too short for it. */
        int sparePlace(int k) {
            int lastPlace = size - 1 - k;
            for (int i = 1; i <= lastPlace; i++) {
                if (!changesCue(i, k)) {
                    return i;
                }
            }
            return lastPlace < 1 ? NONE : 1;
        }

        /** Whether the SPEECH behind has another CUE once k SPEECHES from this one on are CUT. */
        boolean changesCue(int first, int k) {
            return first >= 1 && has(first) && has(first + k) && cue[first + k] != cue[first];
        }

        void findSharers(int near) {
            int all = actors();
            for (int a = 0; a < MOST_ACTORS; a++) {
                sharers[a] = (all >> a & 1) == 0 ? 0 : all & ~(1 << a);
            }
            for (int i = 0; i < size; i++) {
                for (int j = 0; j < i; j++) {
                    if (i - j < near && actor[i] != actor[j]) {
                        sharers[actor[i]] &= ~(1 << actor[j]);
                        sharers[actor[j]] &= ~(1 << actor[i]);
                    }
                }
            }
        }

        /** Of all ACTORS with a SPEECH, after findSharers: sets are worked off from the smaller to the larger. */
        int fewestPlayers() {
            int all = actors();
            needed[0] = 0;
            for (int set = 1; set < needed.length && set <= all; set++) {
                if ((set & ~all) != 0) {
                    continue;
                }
                needed[set] = MOST_ACTORS;
                int lowest = set & -set;
                for (int group = set; group > 0; group = group - 1 & set) {
                    if ((group & lowest) != 0 && canShare(group)) {
                        needed[set] = Math.min(needed[set], needed[set ^ group] + 1);
                    }
                }
            }
            return all < needed.length ? needed[all] : NONE;
        }

        private boolean canShare(int group) {
            for (int a = 0; a < MOST_ACTORS; a++) {
                if ((group >> a & 1) != 0 && (group & ~(sharers[a] | 1 << a)) != 0) {
                    return false;
                }
            }
            return true;
        }

        int doubtfulOf(int name) {
            int found = 0;
            for (int i = 0; i < size; i++) {
                found += actor[i] == name && likes[i] > 0 ? 1 : 0;
            }
            return found;
        }

        int wordsToChange() {
            int found = 0;
            for (int i = 0; i < size; i++) {
                found += lastLikeAhead(i) != NONE ? 1 : 0;
            }
            return found;
        }

        /** The one ahead of the first SPEECH that has a LIKE one ahead, as its WORD is that SPEECH's CUE. */
        int firstWordToChange() {
            for (int i = 0; i < size; i++) {
                if (lastLikeAhead(i) != NONE) {
                    return i - 1;
                }
            }
            return NONE;
        }
    }

    /** KIND and TAKE of the ACTORS, and where each SPEECH of the PLAY LEAPS, if it is LOST. */
    private static final class Leaps {
        private final Play play;
        final int[] kind = new int[MOST_ACTORS];
        final int[] take = new int[MOST_ACTORS];
        /** NONE: it STOPS. */
        final int[] to = new int[MOST_SPEECHES];
        /** Of each number of LOSSES and each SPEECH that is come to: the rows from there to the END. */
        private final long[][] rows = new long[MOST_LOSSES_OF_ROWS + 1][MOST_SPEECHES + 1];

        Leaps(Play play) {
            this.play = play;
            Arrays.fill(take, 50);
        }

        /** To be called whenever the PLAY or a KIND is another one. */
        void plan() {
            for (int i = 0; i < play.size; i++) {
                to[i] = target(i);
            }
        }

        private int target(int speech) {
            int ahead = play.lastLikeAhead(speech);
            int behind = play.firstLikeBehind(speech);
            switch (kind[play.actor[speech]]) {
                case 0: return NONE;
                case 1: return behind;
                case 2: return ahead;
                default: break;
            }
            if (ahead == NONE || behind == NONE) {
                return Math.max(ahead, behind);
            }
            return speech - ahead <= behind - speech ? ahead : behind;
        }

        int takeOf(int speech) {
            return play.has(speech) ? take[play.actor[speech]] : 0;
        }

        int shortestLoop(boolean howMany) {
            int fewest = NONE;
            int lost = NONE;
            for (int i = 0; i < play.size; i++) {
                if (to[i] != NONE && to[i] < i && (lost == NONE || i - to[i] < fewest)) {
                    fewest = i - to[i];
                    lost = i;
                }
            }
            return howMany ? fewest : lost;
        }

        int longestHole(boolean howMany) {
            int most = NONE;
            int lost = NONE;
            for (int i = 0; i < play.size; i++) {
                if (to[i] > i && to[i] - i > most) {
                    most = to[i] - i;
                    lost = i;
                }
            }
            return howMany ? most : lost;
        }

        /** As bits; with NONE those that STOP. */
        int whichLeapTo(int target) {
            int found = 0;
            for (int i = 0; i < play.size; i++) {
                found |= to[i] == target ? 1 << i : 0;
            }
            return found;
        }

        /**
         * At most 200 said need no look here: a row says the SPEECHES once and, for each of six LOSSES at most,
         * 23 again.
         */
        int rowsWith(int k) {
            for (int losses = 0; losses <= k && losses < rows.length; losses++) {
                rows[losses][play.size] = losses == 0 ? 1 : 0;
                for (int i = play.size - 1; i >= 0; i--) {
                    boolean leaps = losses > 0 && play.has(to[i]);
                    rows[losses][i] = rows[losses][i + 1] + (leaps ? rows[losses - 1][to[i] + 1] : 0);
                }
            }
            return k >= 0 && k < rows.length ? (int) Math.min(PARTS, rows[k][0]) : NONE;
        }
    }

    /** What was noted on the SPEECHES of this BOOK. MARKED and COULD are bits of SPEECHES. */
    private static final class Notes {
        int marked;
        int could;
        int nights;
        final int[] timesLost = new int[MOST_SPEECHES];
        boolean hasImage;
        private int imageMarked;
        private final int[] imageTimesLost = new int[MOST_SPEECHES];

        void clear() {
            marked = 0;
            could = 0;
            nights = 0;
            hasImage = false;
            Arrays.fill(timesLost, 0);
        }

        boolean isMarked(int speech) {
            return (marked >> speech & 1) != 0;
        }

        boolean couldBe(int speech) {
            return (could >> speech & 1) != 0;
        }

        void keep(Night night) {
            nights++;
            for (int i = 0; i < timesLost.length; i++) {
                timesLost[i] += night.lostAt[i];
            }
        }

        void markMostLost(int k) {
            marked = 0;
            for (int i = 0; i < k; i++) {
                int next = mostLostNotMarked();
                if (next == NONE) {
                    return;
                }
                marked |= 1 << next;
            }
        }

        private int mostLostNotMarked() {
            int found = NONE;
            int most = 0;
            for (int i = 0; i < timesLost.length; i++) {
                if (!isMarked(i) && timesLost[i] > most) {
                    most = timesLost[i];
                    found = i;
                }
            }
            return found;
        }

        void keepImage() {
            hasImage = true;
            imageMarked = marked;
            System.arraycopy(timesLost, 0, imageTimesLost, 0, MOST_SPEECHES);
        }

        void goBack() {
            marked = imageMarked;
            System.arraycopy(imageTimesLost, 0, timesLost, 0, MOST_SPEECHES);
        }
    }

    /** One way through the PLAY, from the first SPEECH to the END, a STOP, or too many said. */
    private abstract static class Walk {
        final Play play;
        final Leaps leaps;
        final int[] row = new int[MOST_SAID];
        int said;
        int seconds;
        int ending;
        int stoppedAt;

        Walk(Play play, Leaps leaps) {
            this.play = play;
            this.leaps = leaps;
        }

        /** What is said when one comes to this SPEECH: itself, the one leapt to, or NONE for a STOP. */
        abstract int saidAt(int speech);

        final void walk() {
            said = 0;
            seconds = 0;
            ending = TOO_MANY;
            stoppedAt = NONE;
            int come = 0;
            for (int i = 0; i < MOST_SAID && play.has(come); i++) {
                int speech = saidAt(come);
                if (!play.has(speech)) {
                    ending = STOP;
                    stoppedAt = come;
                    return;
                }
                row[i] = speech;
                said++;
                seconds += play.length[speech];
                come = speech + 1;
            }
            if (!play.has(come)) {
                ending = THE_END;
            }
        }
    }

    /** An EVENING by LOSSES, and the search through all EVENINGS with few of them. */
    private static final class Evening extends Walk {
        /** The LOSSES that were not come to as yet. */
        private int pending;
        private boolean wantsMost;
        int bestSaid;
        int bestLosses;

        Evening(Play play, Leaps leaps) {
            super(play, leaps);
        }

        void play(int losses) {
            pending = losses;
            walk();
        }

        int saidAt(int speech) {
            if ((pending >> speech & 1) == 0) {
                return speech;
            }
            pending ^= 1 << speech;
            return play.has(speech) ? leaps.to[speech] : NONE;
        }

        void search(int k, boolean most) {
            wantsMost = most;
            bestSaid = NONE;
            bestLosses = NONE;
            explore(0, 0, 0, 0, k);
        }

        /**
         * Goes on from the SPEECH that is come to. Only LOSSES that one really comes to are tried: a set with
         * others gives the same row, and is no less. One that STOPS is not tried, as it can't come to the END.
         */
        private void explore(int come, int saidSoFar, int met, int losses, int left) {
            if (left == 0) {
                settle(saidSoFar + play.size - come, losses);
                return;
            }
            int metSoFar = met;
            for (int i = come; i < play.size; i++) {
                int bit = 1 << i;
                if ((metSoFar & bit) == 0 && leaps.to[i] != NONE) {
                    explore(leaps.to[i] + 1, saidSoFar + i - come + 1, metSoFar | bit, losses | bit, left - 1);
                }
                metSoFar |= bit;
            }
            settle(saidSoFar + play.size - come, losses);
        }

        private void settle(int saidInAll, int losses) {
            if (saidInAll > MOST_SAID) {
                return;
            }
            boolean isBetter = wantsMost ? saidInAll > bestSaid : saidInAll < bestSaid;
            if (bestSaid == NONE || isBetter || saidInAll == bestSaid && losses < bestLosses) {
                bestSaid = saidInAll;
                bestLosses = losses;
            }
        }
    }

    /** A NIGHT by draws. */
    private static final class Night extends Walk {
        private static final int WHISPER_SECONDS = 3;

        private long x;
        private int marked;
        int lost;
        int saved;
        int leapt;
        final int[] lostAt = new int[MOST_SPEECHES];

        Night(Play play, Leaps leaps) {
            super(play, leaps);
        }

        void play(long seed, int marks) {
            x = seed;
            marked = marks;
            lost = 0;
            saved = 0;
            leapt = 0;
            Arrays.fill(lostAt, 0);
            walk();
        }

        private int draw() {
            x = x * 6364136223846793005L + 1442695040888963407L;
            return (int) ((x >>> 33) % 100);
        }

        int saidAt(int speech) {
            if (!play.has(speech)) {
                return NONE;
            }
            boolean isMarked = (marked >> speech & 1) != 0;
            if (draw() >= play.forgets(speech, isMarked)) {
                return speech;
            }
            lost++;
            lostAt[speech]++;
            if (isMarked && draw() < leaps.takeOf(speech)) {
                saved++;
                return speech;
            }
            int target = leaps.to[speech];
            leapt += target == NONE ? 0 : 1;
            return target;
        }

        int secondsInAll() {
            return seconds + WHISPER_SECONDS * saved;
        }
    }

    /** How the parts at the first SPEECH flow through the PLAY, one said SPEECH after the other. */
    private static final class Odds {
        private final Play play;
        private final Leaps leaps;
        private final int[] forgets = new int[MOST_SPEECHES];
        private final int[] takes = new int[MOST_SPEECHES];
        private long[] now = new long[MOST_SPEECHES];
        private long[] next = new long[MOST_SPEECHES];
        final long[] stopped = new long[MOST_SPEECHES];
        final long[] saidParts = new long[MOST_SPEECHES];
        private long ended;
        private long underWay;

        Odds(Play play, Leaps leaps) {
            this.play = play;
            this.leaps = leaps;
        }

        int chanceWith(int marked, int most) {
            prepare(marked);
            flow(most);
            return (int) ended;
        }

        /** CHANCE, if the FORGETS of this ACTOR alone were 0. */
        int chanceIfSure(int actor, int marked, int most) {
            prepare(marked);
            for (int i = 0; i < play.size; i++) {
                if (play.actor[i] == actor) {
                    forgets[i] = 0;
                }
            }
            flow(most);
            return (int) ended;
        }

        /** The bits of the marks, of several with as few the least; NONE: it can't be. */
        int fewestMarks(int parts, int most, int markedAnyway, int could) {
            int all = Math.min(Integer.bitCount(could), MOST_COULD);
            for (int howMany = 0; howMany <= all; howMany++) {
                for (int choice = 0; choice < 1 << all; choice++) {
                    if (Integer.bitCount(choice) == howMany) {
                        int marks = spread(choice, could);
                        if (reaches(parts, most, markedAnyway | marks)) {
                            return marks;
                        }
                    }
                }
            }
            return NONE;
        }

        /** Puts the bits of a choice, in their order, to the places where bits of could are. */
        private static int spread(int choice, int could) {
            int marks = 0;
            int rest = choice;
            for (int i = 0; i < MOST_SPEECHES; i++) {
                if ((could >> i & 1) != 0) {
                    marks |= (rest & 1) << i;
                    rest >>= 1;
                }
            }
            return marks;
        }

        private void prepare(int marked) {
            for (int i = 0; i < play.size; i++) {
                boolean isMarked = (marked >> i & 1) != 0;
                forgets[i] = play.forgets(i, isMarked);
                takes[i] = isMarked ? leaps.takeOf(i) : 0;
            }
        }

        private void start() {
            Arrays.fill(now, 0);
            Arrays.fill(stopped, 0);
            Arrays.fill(saidParts, 0);
            ended = 0;
            underWay = PARTS;
            now[0] = PARTS;
        }

        private void flow(int most) {
            start();
            for (int said = 0; said < most && underWay > 0; said++) {
                step();
            }
        }

        /** As flow, but only as long as it is open whether so many parts come to the END. */
        private boolean reaches(int parts, int most, int marked) {
            prepare(marked);
            start();
            for (int said = 0; said < most && ended < parts && ended + underWay >= parts; said++) {
                step();
            }
            return ended >= parts;
        }

        private void step() {
            Arrays.fill(next, 0);
            underWay = 0;
            for (int i = 0; i < play.size; i++) {
                if (now[i] != 0) {
                    comeTo(i, now[i]);
                }
            }
            long[] worked = now;
            now = next;
            next = worked;
        }

        private void comeTo(int speech, long parts) {
            long lost = parts * forgets[speech] / 100;
            long gone = lost - lost * takes[speech] / 100;
            say(speech, parts - gone);
            if (leaps.to[speech] == NONE) {
                stopped[speech] += gone;
            } else {
                say(leaps.to[speech], gone);
            }
        }

        private void say(int speech, long parts) {
            saidParts[speech] += parts;
            if (play.has(speech + 1)) {
                next[speech + 1] += parts;
                underWay += parts;
            } else {
                ended += parts;
            }
        }
    }
}
