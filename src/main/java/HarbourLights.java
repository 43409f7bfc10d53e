/**
 * A harbour light office: rhythms that go round and round, lights at their places, and what
 * somebody who looks up for a short while can tell of them. ../shared/DOC.md has the promises.
 *
 * <p>All rows are made in the constructors and used again, so that no call makes an object.
 */
public final class HarbourLights {
    public static final int NONE = -1, UNKNOWN = -2, OUTSIDE = -3, NOT = -4, FULL = -5, NULL = -11, EMPTY = -12, ROOM = -13;

    private static final int MOST_LETTERS = 200;
    private static final int GREATEST_LETTER = 255;
    private static final int MOST_CLAUSES = 24;
    private static final int LEAST_BEATS = 3;
    private static final int MOST_BEATS = 8;
    private static final int LEAST_WINDOW = 2;
    private static final int GREATEST_SIGHT = 99;
    private static final int GREATEST_PLACE = 99;
    private static final int BEATS_AT_FIRST = 4;
    private static final int SIGHT_AT_FIRST = 20;
    private static final int MOST_RHYTHMS = 8;
    private static final int MOST_LIGHTS = 6;
    private static final int MOST_UNDONE = 8;
    private static final int TAPES = 3;
    private static final int MOST_ON_TAPE = 12;
    private static final int GREATEST_NUMBER = 9999;
    private static final int NUMBER_ANSWER = 50000;
    private static final int MOST_BEATS_TO_NAME = 40;
    private static final int PAIRS = MOST_LIGHTS * MOST_BEATS;

    private final Text text;
    /** What the texts told, whatever was done to the lights since. */
    private final Book told;
    /** Where a text is read into, so that a fault leaves what was told alone. */
    private final Book heard;
    private final Lights now;
    private final Done done;
    private final Lights keptFirst;
    private final Lights keptSecond;
    private final Planner planner;
    private final Machine watcher;
    private final Watch vigil;
    private final Tape[] tapes;

    public HarbourLights() {
        text = new Text();
        told = new Book();
        heard = new Book();
        now = new Lights();
        done = new Done();
        keptFirst = new Lights();
        keptSecond = new Lights();
        planner = new Planner();
        watcher = new Machine();
        vigil = new Watch();
        tapes = new Tape[TAPES];
        for (int i = 0; i < TAPES; i++) {
            tapes[i] = new Tape();
        }
    }

    // ---- what is told

    public int write(int letter) {
        if (letter < 0 || letter > GREATEST_LETTER) {
            return OUTSIDE;
        }
        if (text.length >= MOST_LETTERS) {
            return FULL;
        }
        text.append(letter);
        return text.length;
    }

    public int erase() {
        int had = text.length;
        text.length = 0;
        return had;
    }

    public int fault() {
        heard.become(told);
        return text.readInto(heard);
    }

    public int office() {
        heard.become(told);
        if (text.readInto(heard) != NONE) {
            return NOT;
        }
        told.become(heard);
        now.become(told.lights);
        forgetWhatWasDone();
        text.length = 0;
        return text.clauses;
    }

    private void forgetWhatWasDone() {
        vigil.end();
        done.size = 0;
        keptFirst.kept = false;
        keptSecond.kept = false;
        for (int i = 0; i < TAPES; i++) {
            Tape row = tapeAt(i);
            if (row != null) {
                row.vanish();
            }
        }
    }

    public int rhythm(int rhythm, int what) {
        if (!told.hasRhythm(rhythm)) {
            return UNKNOWN;
        }
        switch (what) {
            case 0:
                return told.numbers[rhythm];
            case 1:
                return told.turned(rhythm, told.turnsToLeast(rhythm));
            case 2:
                return told.repeats(rhythm);
            case 3:
                return Integer.bitCount(told.numbers[rhythm]);
            case 4:
                return told.turnsToLeast(rhythm);
            default:
                return OUTSIDE;
        }
    }

    public int light(int light, int what) {
        if (!now.hasLight(light)) {
            return UNKNOWN;
        }
        switch (what) {
            case 0:
                return now.places[light];
            case 1:
                return now.rhythms[light];
            case 2:
                return now.neighbours(light, told.sight);
            case 3:
                return clashing(light);
            default:
                return OUTSIDE;
        }
    }

    private int clashing(int light) {
        int near = now.neighbours(light, told.sight);
        int bits = 0;
        for (int other = 0; other < now.size; other++) {
            boolean isNear = (near >> other & 1) == 1;
            if (isNear && told.areSuch(now.rhythms[light], now.rhythms[other], 0)) {
                bits |= 1 << other;
            }
        }
        return bits;
    }

    public int like(int one, int other, int what) {
        if (!told.hasRhythm(one) || !told.hasRhythm(other)) {
            return UNKNOWN;
        }
        if (what < 0 || what > 1) {
            return OUTSIDE;
        }
        return told.areSuch(one, other, what) ? 1 : 0;
    }

    // ---- what is done

    public int lit(int light, int rhythm) {
        if (!now.hasLight(light) || !told.hasRhythm(rhythm)) {
            return UNKNOWN;
        }
        int before = now.rhythms[light];
        if (before == rhythm) {
            return NOT;
        }
        prepareChange(light);
        now.rhythms[light] = rhythm;
        return before;
    }

    public int dark(int light) {
        if (!now.hasLight(light)) {
            return UNKNOWN;
        }
        int before = now.rhythms[light];
        if (before == NONE) {
            return NOT;
        }
        prepareChange(light);
        now.rhythms[light] = NONE;
        return before;
    }

    public int move(int light, int place) {
        if (!now.hasLight(light)) {
            return UNKNOWN;
        }
        if (!isPlace(place)) {
            return OUTSIDE;
        }
        int before = now.places[light];
        if (before == place) {
            return NOT;
        }
        prepareChange(light);
        now.places[light] = place;
        return before;
    }

    private void prepareChange(int light) {
        done.remember(now, light);
        vigil.end();
    }

    public int undo() {
        if (done.size == 0) {
            return NOT;
        }
        done.takeBack(now);
        vigil.end();
        return done.size;
    }

    public int keep(int k) {
        Lights kept = keptAt(k);
        if (kept == null) {
            return UNKNOWN;
        }
        kept.become(now);
        kept.kept = true;
        return Integer.bitCount(now.litOnes());
    }

    public int back(int k) {
        Lights kept = keptAt(k);
        if (kept == null) {
            return UNKNOWN;
        }
        if (!kept.kept) {
            return NOT;
        }
        now.become(kept);
        done.size = 0;
        vigil.end();
        return Integer.bitCount(now.litOnes());
    }

    private Lights keptAt(int k) {
        if (k == 0) {
            return keptFirst;
        }
        return k == 1 ? keptSecond : null;
    }

    // ---- foretold

    public int plan(int strict, int light) {
        if (light != NONE && !now.hasLight(light)) {
            return UNKNOWN;
        }
        if (strict < 0 || strict > 1) {
            return OUTSIDE;
        }
        if (!planner.makePlan(told, now, strict)) {
            return NONE;
        }
        return light == NONE ? planner.fewest : planner.best[light];
    }

    public int most(int strict) {
        if (strict < 0 || strict > 1) {
            return OUTSIDE;
        }
        return planner.greatestUnlikeSet(told, strict);
    }

    public int apart(int one, int other) {
        if (!told.hasRhythm(one) || !told.hasRhythm(other)) {
            return UNKNOWN;
        }
        for (int window = 1; window <= told.beats; window++) {
            if (!told.shareRow(one, other, window, 0)) {
                return window;
            }
        }
        return NONE;
    }

    public int machine(int q, int what) {
        if (!isPlace(q) || what < 0 || what > 1) {
            return OUTSIDE;
        }
        watcher.prepare(told, now, q);
        return what == 0 ? watcher.states() : watcher.named();
    }

    // ---- a watch

    public int watch(int q, int missing) {
        if (!isPlace(q) || missing < 0 || missing > 1) {
            return OUTSIDE;
        }
        vigil.begin(now.pairsSeenFrom(q, told), missing == 1);
        return vigil.size();
    }

    public int see(int beat) {
        if (beat < 0 || beat > 1) {
            return OUTSIDE;
        }
        if (!vigil.on) {
            return NOT;
        }
        vigil.takeBeat(beat, now.pairsThatFlash(told), told.beats);
        return vigil.size();
    }

    public int left(int what, int k) {
        if (what < 0 || what > 1 || k < 0) {
            return OUTSIDE;
        }
        if (!vigil.on) {
            return NOT;
        }
        return what == 0 ? vigil.lights() : vigil.pairAt(k, told.beats);
    }

    // ---- tapes

    public int tape(int tape) {
        Tape row = tapeAt(tape);
        if (row == null) {
            return UNKNOWN;
        }
        row.begin();
        return 0;
    }

    public int put(int tape, int end, int v) {
        Tape row = tapeAt(tape);
        if (row == null) {
            return UNKNOWN;
        }
        if (!isEnd(end) || !isNumber(v)) {
            return OUTSIDE;
        }
        if (!row.here) {
            return NULL;
        }
        if (row.size >= MOST_ON_TAPE) {
            return ROOM;
        }
        if (end == 0) {
            row.addInFront(v);
        } else {
            row.addBehind(v);
        }
        return row.size;
    }

    public int draw(int tape, int end) {
        Tape row = tapeAt(tape);
        if (row == null) {
            return UNKNOWN;
        }
        if (!isEnd(end)) {
            return OUTSIDE;
        }
        if (!row.here) {
            return NULL;
        }
        if (row.size == 0) {
            return EMPTY;
        }
        int v = end == 0 ? row.takeFirst() : row.takeLast();
        return v + NUMBER_ANSWER;
    }

    public int turn(int tape, int n) {
        Tape row = tapeAt(tape);
        if (row == null) {
            return UNKNOWN;
        }
        if (n < 0 || n > 99) {
            return OUTSIDE;
        }
        if (!row.here) {
            return NULL;
        }
        if (row.size == 0) {
            return EMPTY;
        }
        for (int i = 0; i < n; i++) {
            row.addBehind(row.takeFirst());
        }
        return row.size;
    }

    public int find(int tape, int what, int v) {
        Tape row = tapeAt(tape);
        if (row == null) {
            return UNKNOWN;
        }
        if (what < 0 || what > 2 || !isNumber(v)) {
            return OUTSIDE;
        }
        if (!row.here) {
            return NULL;
        }
        if (what == 2) {
            return row.howMany(v);
        }
        if (row.size == 0) {
            return EMPTY;
        }
        int found = what == 0 ? row.greatest() : row.least();
        return found + NUMBER_ANSWER;
    }

    public int strike(int tape, int v) {
        Tape row = tapeAt(tape);
        if (row == null) {
            return UNKNOWN;
        }
        if (!isNumber(v)) {
            return OUTSIDE;
        }
        if (!row.here) {
            return NULL;
        }
        return row.removeAll(v);
    }

    public int load(int tape, int rhythm, int k) {
        Tape row = tapeAt(tape);
        if (row == null || !told.hasRhythm(rhythm)) {
            return UNKNOWN;
        }
        if (k < 0 || k >= told.beats) {
            return OUTSIDE;
        }
        if (!row.here) {
            return NULL;
        }
        if (row.size + told.beats > MOST_ON_TAPE) {
            return ROOM;
        }
        int number = told.turned(rhythm, k);
        for (int bit = told.beats - 1; bit >= 0; bit--) {
            row.addBehind(number >> bit & 1);
        }
        return row.size;
    }

    public int drop(int tape) {
        Tape row = tapeAt(tape);
        if (row == null) {
            return UNKNOWN;
        }
        if (!row.here) {
            return NULL;
        }
        int had = row.size;
        row.vanish();
        return had;
    }

    public int count(int what) {
        switch (what) {
            case 0:
                return told.beats;
            case 1:
                return told.window;
            case 2:
                return told.sight;
            case 3:
                return told.size;
            case 4:
                return now.size;
            case 5:
                return now.litOnes();
            case 6:
                return clashes();
            case 7:
                return vigil.size();
            case 8:
                return numbersOnTapes();
            case 9:
                return done.size;
            case 10:
                return text.length;
            default:
                return OUTSIDE;
        }
    }

    private int clashes() {
        int ends = 0;
        for (int light = 0; light < now.size; light++) {
            ends += Integer.bitCount(clashing(light));
        }
        // Each pair was met from both of its lights.
        return ends >> 1;
    }

    private int numbersOnTapes() {
        int sum = 0;
        for (int i = 0; i < TAPES; i++) {
            Tape row = tapeAt(i);
            if (row != null) {
                sum += row.size;
            }
        }
        return sum;
    }

    private Tape tapeAt(int tape) {
        return tape < 0 || tape >= TAPES ? null : tapes[tape];
    }

    private static boolean isPlace(int place) {
        return place >= 0 && place <= GREATEST_PLACE;
    }

    private static boolean isEnd(int end) {
        return end == 0 || end == 1;
    }

    private static boolean isNumber(int v) {
        return v >= -GREATEST_NUMBER && v <= GREATEST_NUMBER;
    }

    /** Lights at their places, each lit by a rhythm or by NONE. */
    private static final class Lights {
        int size;
        final int[] places = new int[MOST_LIGHTS];
        final int[] rhythms = new int[MOST_LIGHTS];
        /** Of lights that were kept: whether these still can be gone back to. */
        boolean kept;

        void become(Lights other) {
            size = other.size;
            System.arraycopy(other.places, 0, places, 0, MOST_LIGHTS);
            System.arraycopy(other.rhythms, 0, rhythms, 0, MOST_LIGHTS);
        }

        boolean hasLight(int light) {
            return light >= 0 && light < size;
        }

        void addAt(int place) {
            if (size < MOST_LIGHTS) {
                places[size] = place;
                rhythms[size] = NONE;
                size++;
            }
        }

        int neighbours(int light, int sight) {
            int bits = 0;
            for (int other = 0; other < size; other++) {
                if (other != light && Math.abs(places[other] - places[light]) <= sight) {
                    bits |= 1 << other;
                }
            }
            return bits;
        }

        int litOnes() {
            int bits = 0;
            for (int light = 0; light < size; light++) {
                if (rhythms[light] != NONE) {
                    bits |= 1 << light;
                }
            }
            return bits;
        }

        /** A pair of a light and a shift is one bit, so that a set of pairs is one long. */
        long pairsSeenFrom(int q, Book book) {
            long allShifts = (1L << book.beats) - 1L;
            long pairs = 0L;
            for (int light = 0; light < size; light++) {
                if (rhythms[light] != NONE && Math.abs(places[light] - q) <= book.sight) {
                    pairs |= allShifts << light * MOST_BEATS;
                }
            }
            return pairs;
        }

        long pairsThatFlash(Book book) {
            long pairs = 0L;
            for (int light = 0; light < size; light++) {
                for (int shift = 0; shift < book.beats; shift++) {
                    if (book.hasFlash(rhythms[light], shift)) {
                        pairs |= 1L << light * MOST_BEATS + shift;
                    }
                }
            }
            return pairs;
        }
    }

    /** The book of rhythms, and the lights as the texts told them. */
    private static final class Book {
        int beats;
        int window;
        int sight;
        int size;
        final int[] numbers = new int[MOST_RHYTHMS];
        final Lights lights = new Lights();

        Book() {
            beginAnew(BEATS_AT_FIRST);
        }

        void beginAnew(int newBeats) {
            beats = newBeats;
            window = LEAST_WINDOW;
            sight = SIGHT_AT_FIRST;
            size = 0;
            lights.size = 0;
        }

        void become(Book other) {
            beats = other.beats;
            window = other.window;
            sight = other.sight;
            size = other.size;
            System.arraycopy(other.numbers, 0, numbers, 0, MOST_RHYTHMS);
            lights.become(other.lights);
        }

        boolean hasRhythm(int rhythm) {
            return rhythm >= 0 && rhythm < size;
        }

        void addRhythm(int number) {
            if (size < MOST_RHYTHMS) {
                numbers[size] = number;
                size++;
            }
        }

        boolean hasFlash(int rhythm, int shift) {
            return hasRhythm(rhythm) && (numbers[rhythm] >> beats - 1 - shift & 1) == 1;
        }

        int turned(int rhythm, int k) {
            int number = numbers[rhythm];
            int all = (1 << beats) - 1;
            return (number << k | number >> beats - k) & all;
        }

        int turnsToLeast(int rhythm) {
            int best = 0;
            for (int k = 1; k < beats; k++) {
                if (turned(rhythm, k) < turned(rhythm, best)) {
                    best = k;
                }
            }
            return best;
        }

        int repeats(int rhythm) {
            for (int k = 1; k < beats; k++) {
                if (turned(rhythm, k) == numbers[rhythm]) {
                    return k;
                }
            }
            return beats;
        }

        /** LIKE (strict 0) or WEAK (1); NONE, as what a dark light is lit by, is neither to any. */
        boolean areSuch(int one, int other, int strict) {
            return hasRhythm(one) && hasRhythm(other) && shareRow(one, other, window, strict);
        }

        /**
         * Either row may have lost the flash, so two rows are WEAK if they differ at one beat at
         * most, whichever of the two has the flash there.
         */
        boolean shareRow(int one, int other, int rowLength, int differences) {
            int cut = beats - rowLength;
            for (int i = 0; i < beats; i++) {
                int row = turned(one, i) >> cut;
                for (int j = 0; j < beats; j++) {
                    if (Integer.bitCount(row ^ turned(other, j) >> cut) <= differences) {
                        return true;
                    }
                }
            }
            return false;
        }

        /** The rhythms (bits) that are LIKE or WEAK to one, itself among them. */
        int suchOnes(int rhythm, int strict) {
            int bits = 0;
            for (int other = 0; other < size; other++) {
                if (areSuch(rhythm, other, strict)) {
                    bits |= 1 << other;
                }
            }
            return bits;
        }
    }

    /** THE TEXT, and how it is read, token by token, to its first fault. */
    private static final class Text {
        int length;
        /** How many clauses the latest reading without a fault had. */
        int clauses;
        private final int[] letters = new int[MOST_LETTERS];
        /** The token at hand: from begin on, before end; both are the length behind the last one. */
        private int begin;
        private int end;

        void append(int letter) {
            if (length < MOST_LETTERS) {
                letters[length] = letter;
                length++;
            }
        }

        /** Does the clauses in a book, up to the first fault: the place of it, or NONE. */
        int readInto(Book book) {
            end = 0;
            for (int clause = 1; clause <= MOST_CLAUSES; clause++) {
                advance();
                if (!readClause(book)) {
                    return begin;
                }
                clauses = clause;
                advance();
                if (begin >= length) {
                    return NONE;
                }
                if (letters[begin] != ';') {
                    return begin;
                }
            }
            // No clause may come any more, so the ; ahead of it cannot stand either.
            return begin;
        }

        private boolean readClause(Book book) {
            if (isWord("beats")) {
                return readBeats(book);
            }
            if (isWord("window")) {
                return readWindow(book);
            }
            if (isWord("sight")) {
                return readSight(book);
            }
            if (isWord("rhythm")) {
                return book.size < MOST_RHYTHMS && readRhythm(book);
            }
            if (isWord("light")) {
                return book.lights.size < MOST_LIGHTS && readLight(book);
            }
            return isWord("lit") && readLit(book);
        }

        private boolean readBeats(Book book) {
            int beats = readNumber(LEAST_BEATS, MOST_BEATS);
            if (beats != NONE) {
                book.beginAnew(beats);
            }
            return beats != NONE;
        }

        private boolean readWindow(Book book) {
            int window = readNumber(LEAST_WINDOW, book.beats);
            if (window != NONE) {
                book.window = window;
            }
            return window != NONE;
        }

        private boolean readSight(Book book) {
            int sight = readNumber(1, GREATEST_SIGHT);
            if (sight != NONE) {
                book.sight = sight;
            }
            return sight != NONE;
        }

        private boolean readRhythm(Book book) {
            advance();
            if (end - begin != book.beats) {
                return false;
            }
            int number = 0;
            for (int i = begin; i < end; i++) {
                if (letters[i] != 'd' && letters[i] != 'f') {
                    return false;
                }
                number = number << 1 | (letters[i] == 'f' ? 1 : 0);
            }
            book.addRhythm(number);
            return true;
        }

        private boolean readLight(Book book) {
            int place = readNumber(0, GREATEST_PLACE);
            if (place != NONE) {
                book.lights.addAt(place);
            }
            return place != NONE;
        }

        private boolean readLit(Book book) {
            int light = readNumber(0, book.lights.size - 1);
            if (light == NONE) {
                return false;
            }
            int rhythm = readNumber(0, book.size - 1);
            if (rhythm != NONE) {
                book.lights.rhythms[light] = rhythm;
            }
            return rhythm != NONE;
        }

        /** The next token as a number within its bounds; NONE, if it is not such a one. */
        private int readNumber(int least, int greatest) {
            advance();
            int digits = end - begin;
            if (digits < 1 || digits > 2) {
                return NONE;
            }
            int number = 0;
            for (int i = begin; i < end; i++) {
                if (!isDigit(letters[i])) {
                    return NONE;
                }
                number = number * 10 + letters[i] - '0';
            }
            return number < least || number > greatest ? NONE : number;
        }

        private void advance() {
            begin = end;
            while (begin < length && letters[begin] == ' ') {
                begin++;
            }
            end = begin;
            if (begin >= length) {
                return;
            }
            end++;
            boolean small = isSmall(letters[begin]);
            boolean digit = isDigit(letters[begin]);
            while (end < length && (small && isSmall(letters[end]) || digit && isDigit(letters[end]))) {
                end++;
            }
        }

        private boolean isWord(String word) {
            if (end - begin != word.length()) {
                return false;
            }
            for (int i = begin; i < end; i++) {
                if (letters[i] != word.charAt(i - begin)) {
                    return false;
                }
            }
            return true;
        }

        private static boolean isSmall(int letter) {
            return letter >= 'a' && letter <= 'z';
        }

        private static boolean isDigit(int letter) {
            return letter >= '0' && letter <= '9';
        }
    }

    /** What can be undone: the light of each change, and how it was before it. */
    private static final class Done {
        int size;
        private final int[] light = new int[MOST_UNDONE];
        private final int[] place = new int[MOST_UNDONE];
        private final int[] rhythm = new int[MOST_UNDONE];

        void remember(Lights lights, int changed) {
            if (size >= MOST_UNDONE) {
                forgetOldest();
            }
            light[size] = changed;
            place[size] = lights.places[changed];
            rhythm[size] = lights.rhythms[changed];
            size++;
        }

        private void forgetOldest() {
            size = MOST_UNDONE - 1;
            System.arraycopy(light, 1, light, 0, size);
            System.arraycopy(place, 1, place, 0, size);
            System.arraycopy(rhythm, 1, rhythm, 0, size);
        }

        void takeBack(Lights lights) {
            if (size > 0) {
                size--;
                lights.places[light[size]] = place[size];
                lights.rhythms[light[size]] = rhythm[size];
            }
        }
    }

    /** Which rhythms lights had best have: PLAN and MOST. */
    private static final class Planner {
        private static final int ALL_LIGHTS = (1 << MOST_LIGHTS) - 1;
        int fewest;
        final int[] best = new int[MOST_LIGHTS];
        private int lights;
        private int rhythms;
        private final int[] chosen = new int[MOST_LIGHTS];
        private final int[] neighbours = new int[MOST_LIGHTS];
        private final int[] such = new int[MOST_RHYTHMS];

        /** Whether there is a plan; fewest and best tell it then. */
        boolean makePlan(Book book, Lights coast, int strict) {
            compareRhythms(book, strict);
            lights = coast.size;
            for (int light = 0; light < lights; light++) {
                neighbours[light] = coast.neighbours(light, book.sight);
            }
            fewest = MOST_RHYTHMS + 1;
            chooseFrom(0, 0);
            return fewest <= MOST_RHYTHMS;
        }

        private void compareRhythms(Book book, int strict) {
            rhythms = book.size;
            for (int rhythm = 0; rhythm < rhythms; rhythm++) {
                such[rhythm] = book.suchOnes(rhythm, strict);
            }
        }

        /**
         * Plans come in their order, and only one with fewer rhythms takes the place of the best so
         * far: so the first of those with the fewest stays.
         *
         * <p>Answers the lights (bits) that are to blame that no more came of it. One that is not
         * among them need not be tried with its other rhythms: without this, a knot of lights for
         * which there is no plan would be met again for all that lights far from it may have.
         */
        private int chooseFrom(int light, int used) {
            if (light >= lights) {
                fewest = Integer.bitCount(used);
                System.arraycopy(chosen, 0, best, 0, MOST_LIGHTS);
                return ALL_LIGHTS;
            }
            int refused = refusedFor(light);
            int blamed = neighbours[light];
            for (int rhythm = 0; rhythm < rhythms; rhythm++) {
                int usedThen = used | 1 << rhythm;
                boolean stands = (refused >> rhythm & 1) == 0;
                if (stands && Integer.bitCount(usedThen) >= fewest) {
                    blamed = ALL_LIGHTS;
                } else if (stands) {
                    chosen[light] = rhythm;
                    int blamedBehind = chooseFrom(light + 1, usedThen);
                    if ((blamedBehind >> light & 1) == 0) {
                        return blamedBehind;
                    }
                    blamed |= blamedBehind;
                }
            }
            return blamed;
        }

        private int refusedFor(int light) {
            int bits = 0;
            for (int other = 0; other < light; other++) {
                if ((neighbours[light] >> other & 1) == 1) {
                    bits |= such[chosen[other]];
                }
            }
            return bits;
        }

        int greatestUnlikeSet(Book book, int strict) {
            compareRhythms(book, strict);
            int greatest = 0;
            for (int set = 1; set < 1 << rhythms; set++) {
                if (Integer.bitCount(set) > Integer.bitCount(greatest) && isUnlike(set)) {
                    greatest = set;
                }
            }
            return greatest;
        }

        private boolean isUnlike(int set) {
            for (int rhythm = 0; rhythm < rhythms; rhythm++) {
                int others = set & ~(1 << rhythm);
                if (others != set && (such[rhythm] & others) != 0) {
                    return false;
                }
            }
            return true;
        }
    }

    /** What a watcher may think of, by sets of pairs. */
    private static final class Machine {
        /**
         * By n beats there come no more sets than words of n beats, nor than pairs, and behind b
         * beats none is new: 1 + 2 + 4 + 8 + 16 + 32 + 48 + 48 + 48 = 207 at most.
         */
        private static final int MOST_SETS = 256;
        private final long[] sets = new long[MOST_SETS];
        /** Sets that come by as many beats have no pair in common: never more of them than pairs. */
        private final long[] nextSets = new long[PAIRS];
        private int size;
        private int beats;
        private long first;
        private long flashing;
        private long lastShifts;

        void prepare(Book book, Lights lights, int q) {
            beats = book.beats;
            first = lights.pairsSeenFrom(q, book);
            flashing = lights.pairsThatFlash(book);
            lastShifts = 0L;
            for (int light = 0; light < MOST_LIGHTS; light++) {
                lastShifts |= 1L << light * MOST_BEATS + beats - 1;
            }
            sets[0] = first;
            size = first == 0L ? 0 : 1;
        }

        int states() {
            for (int i = 0; i < size && i < MOST_SETS; i++) {
                addIfNew(behind(sets[i], 0));
                addIfNew(behind(sets[i], 1));
            }
            return size;
        }

        int named() {
            for (int n = 0; size > 0 && n <= MOST_BEATS_TO_NAME; n++) {
                if (allNameOneLight()) {
                    return n;
                }
                takeAnyBeat();
            }
            return NONE;
        }

        private long behind(long set, int beat) {
            long fitting = beat == 1 ? set & flashing : set & ~flashing;
            long last = fitting & lastShifts;
            return (fitting ^ last) << 1 | last >>> beats - 1;
        }

        private void addIfNew(long set) {
            if (set == 0L || size >= MOST_SETS) {
                return;
            }
            for (int i = 0; i < size; i++) {
                if (sets[i] == set) {
                    return;
                }
            }
            sets[size] = set;
            size++;
        }

        private void takeAnyBeat() {
            int next = 0;
            for (int i = 0; i < size; i++) {
                for (int beat = 0; beat <= 1; beat++) {
                    long set = behind(sets[i], beat);
                    if (set != 0L && next < PAIRS) {
                        nextSets[next] = set;
                        next++;
                    }
                }
            }
            size = next;
            System.arraycopy(nextSets, 0, sets, 0, size);
        }

        private boolean allNameOneLight() {
            for (int i = 0; i < size; i++) {
                if (Integer.bitCount(lightsIn(sets[i])) != 1) {
                    return false;
                }
            }
            return true;
        }
    }

    private static int lightsIn(long pairs) {
        long shifts = (1L << MOST_BEATS) - 1L;
        int bits = 0;
        for (int light = 0; light < MOST_LIGHTS; light++) {
            if ((pairs & shifts << light * MOST_BEATS) != 0L) {
                bits |= 1 << light;
            }
        }
        return bits;
    }

    /** A watch; its pairs go by the shifts of the begin, as all of them turn alike. */
    private static final class Watch {
        boolean on;
        private boolean missing;
        private long pairs;
        private long missedOne;
        private int turns;

        void begin(long first, boolean flashMayBeMissed) {
            on = true;
            missing = flashMayBeMissed;
            pairs = first;
            missedOne = 0L;
            turns = 0;
        }

        void end() {
            on = false;
            pairs = 0L;
        }

        int size() {
            return Long.bitCount(pairs);
        }

        int lights() {
            return lightsIn(pairs);
        }

        void takeBeat(int beat, long flashing, int beats) {
            for (int pair = 0; pair < PAIRS; pair++) {
                long bit = 1L << pair;
                long bitNow = 1L << pair - pair % MOST_BEATS + shiftNow(pair, beats);
                boolean flashes = (flashing & bitNow) != 0L;
                if ((pairs & bit) != 0L && flashes != (beat == 1)) {
                    strikeOrForgive(bit, flashes);
                }
            }
            turns = turns + 1 < beats ? turns + 1 : 0;
        }

        private void strikeOrForgive(long bit, boolean flashes) {
            if (missing && flashes && (missedOne & bit) == 0L) {
                missedOne |= bit;
            } else {
                pairs ^= bit;
            }
        }

        private int shiftNow(int pair, int beats) {
            int shift = pair % MOST_BEATS + turns;
            return shift < beats ? shift : shift - beats;
        }

        int pairAt(int k, int beats) {
            int ahead = k;
            for (int pair = 0; pair < PAIRS; pair++) {
                if ((pairs >> pair & 1L) == 1L) {
                    if (ahead == 0) {
                        return pair / MOST_BEATS * 10 + shiftNow(pair, beats);
                    }
                    ahead--;
                }
            }
            return NONE;
        }
    }

    /** A row of numbers; a missing one has none. */
    private static final class Tape {
        boolean here;
        int size;
        private final int[] numbers = new int[MOST_ON_TAPE];

        void begin() {
            here = true;
            size = 0;
        }

        void vanish() {
            here = false;
            size = 0;
        }

        void addInFront(int v) {
            if (size < MOST_ON_TAPE) {
                System.arraycopy(numbers, 0, numbers, 1, size);
                numbers[0] = v;
                size++;
            }
        }

        void addBehind(int v) {
            if (size < MOST_ON_TAPE) {
                numbers[size] = v;
                size++;
            }
        }

        int takeFirst() {
            int v = numbers[0];
            if (size > 0) {
                size--;
                System.arraycopy(numbers, 1, numbers, 0, size);
            }
            return v;
        }

        int takeLast() {
            if (size > 0) {
                size--;
            }
            return numbers[size];
        }

        int greatest() {
            int found = numbers[0];
            for (int i = 1; i < size; i++) {
                found = Math.max(found, numbers[i]);
            }
            return found;
        }

        int least() {
            int found = numbers[0];
            for (int i = 1; i < size; i++) {
                found = Math.min(found, numbers[i]);
            }
            return found;
        }

        int howMany(int v) {
            int found = 0;
            for (int i = 0; i < size; i++) {
                if (numbers[i] == v) {
                    found++;
                }
            }
            return found;
        }

        int removeAll(int v) {
            int had = size;
            size = 0;
            for (int i = 0; i < had; i++) {
                if (numbers[i] != v) {
                    numbers[size] = numbers[i];
                    size++;
                }
            }
            return had - size;
        }
    }
}
