/**
 * Calls figures to eight dancers on a floor, as ../shared/DOC.md promises.
 *
 * A place is one int, 4 * (10 * y + x) + facing, and a row of places is eight of them, by dancer.
 * All rows are made in constructors and used again, so that no call but a throw makes an object.
 */
public final class FigureCaller {
    private static final int DANCERS = 8;
    private static final int SIDE = 10;
    private static final int QUARTERS = 4;
    private static final int SELECTORS = 13;
    private static final int MOST_CHARACTERS = 100;
    private static final int MOST_CALLS = 12;
    private static final int MOST_BEATS = 16;
    private static final int MOST_DEEP = 6;
    private static final int MOST_BRACKETS = 3;
    private static final int MOST_DANCED = 24;
    private static final int MOST_ALLOWED = 5;
    private static final int NONE = -1;

    private static final int[] HOME_SPOTS = {34, 35, 46, 56, 65, 64, 53, 43};
    private static final int[] HOME_FACINGS = {0, 0, 3, 3, 2, 2, 1, 1};

    private final Text text;
    private final Book book;
    private final Reader reader;
    private final Dancing dancing;
    private final WayHome wayHome;
    private final Track[] journal;
    private final Track trial;
    private final Track otherTrial;
    private final int[] places;
    private final int[] start;
    private int danced;
    private int latestFault;
    private int latestClash;

    public FigureCaller() {
        text = new Text();
        book = new Book();
        reader = new Reader(text, book);
        dancing = new Dancing(book);
        wayHome = new WayHome(book, dancing);
        journal = new Track[MOST_DANCED];
        for (int i = 0; i < MOST_DANCED; i++) {
            journal[i] = new Track();
        }
        trial = new Track();
        otherTrial = new Track();
        places = new int[DANCERS];
        start = new int[DANCERS];
        latestFault = NONE;
        putHome(places, 0);
    }

    public boolean write(long characters) {
        return text.add(characters);
    }

    public int wipe() {
        return text.clear();
    }

    public int define() throws IllegalArgumentException, IllegalStateException {
        latestFault = reader.read();
        if (latestFault != NONE) {
            throw new IllegalArgumentException("the text is no call");
        }
        if (book.isFull()) {
            throw new IllegalStateException("there are twelve calls");
        }
        text.clear();
        return book.keepDraft();
    }

    public int fault() {
        return latestFault;
    }

    public int beats(int call) throws IllegalArgumentException {
        checkCall(call);
        return book.figure(call).beatCount;
    }

    public int dance(int call) throws IllegalArgumentException, IllegalStateException {
        return perform(call, false);
    }

    public int backward(int call) throws IllegalArgumentException, IllegalStateException {
        return perform(call, true);
    }

    public int clash() {
        return latestClash;
    }

    public int undo() throws IllegalStateException {
        if (danced == 0) {
            throw new IllegalStateException("the journal is empty");
        }
        danced--;
        Track last = journal[danced];
        last.copyRow(0, places, 0);
        return last.beatCount;
    }

    public int home() {
        int calls = danced;
        danced = 0;
        putHome(places, 0);
        return calls;
    }

    public int where(int dancer, int what) throws IllegalArgumentException {
        checkDancer(dancer);
        int place = places[dancer];
        switch (what) {
            case 0:
                return place / QUARTERS % SIDE;
            case 1:
                return place / QUARTERS / SIDE;
            case 2:
                return place % QUARTERS;
            default:
                throw new IllegalArgumentException("there is nothing else to ask of a dancer");
        }
    }

    public int stood(int beat, int dancer) throws IllegalArgumentException, IndexOutOfBoundsException {
        checkDancer(dancer);
        if (danced == 0) {
            throw new IndexOutOfBoundsException("the journal is empty");
        }
        Track last = journal[danced - 1];
        if (beat < 0 || beat > last.beatCount) {
            throw new IndexOutOfBoundsException("the last call has no such beat");
        }
        return last.place(beat, dancer) / QUARTERS;
    }

    public boolean select(int selector, int dancer) throws IllegalArgumentException {
        if (selector < 0 || selector >= SELECTORS) {
            throw new IllegalArgumentException("there is no such selector");
        }
        checkDancer(dancer);
        return (dancing.selection.chosen(selector, places, 0) >> dancer & 1) == 1;
    }

    public int shape() {
        return Shape.of(places);
    }

    public void allow(int call, boolean yes) throws IllegalArgumentException, IllegalStateException {
        checkCall(call);
        if (book.countAllowedBeside(call) >= MOST_ALLOWED) {
            throw new IllegalStateException("five others are allowed");
        }
        book.figure(call).allowed = yes;
    }

    public int resolve() {
        return wayHome.search(places, trial);
    }

    public int way(int i) throws IndexOutOfBoundsException {
        if (i < 0 || i >= wayHome.found) {
            throw new IndexOutOfBoundsException("the way has no so many calls");
        }
        return wayHome.calls[i];
    }

    public boolean same(int a, int b) throws IllegalArgumentException {
        checkCall(a);
        checkCall(b);
        for (int turns = 0; turns < QUARTERS; turns++) {
            putHome(start, turns);
            trial.begin(start, 0);
            otherTrial.begin(start, 0);
            boolean fails = dancing.follow(trial, book.figure(a), false) != 0;
            boolean otherFails = dancing.follow(otherTrial, book.figure(b), false) != 0;
            if (fails != otherFails || !fails && !trial.endsAs(otherTrial)) {
                return false;
            }
        }
        return true;
    }

    private int perform(int call, boolean reversed) {
        checkCall(call);
        if (danced >= MOST_DANCED) {
            throw new IllegalStateException("the journal is full");
        }
        // The row behind the journal's last is free, so a call that fails there leaves nothing behind.
        Track track = journal[danced];
        track.begin(places, 0);
        latestClash = dancing.follow(track, book.figure(call), reversed);
        if (latestClash != 0) {
            throw new IllegalStateException("a beat fails");
        }
        danced++;
        track.copyRow(track.beatCount, places, 0);
        return track.beatCount;
    }

    private void checkCall(int call) {
        if (!book.has(call)) {
            throw new IllegalArgumentException("there is no such call");
        }
    }

    private static void checkDancer(int dancer) {
        if (dancer < 0 || dancer >= DANCERS) {
            throw new IllegalArgumentException("there is no such dancer");
        }
    }

    private static void putHome(int[] row, int turns) {
        for (int d = 0; d < DANCERS; d++) {
            row[d] = QUARTERS * HOME_SPOTS[d] + (HOME_FACINGS[d] + turns) % QUARTERS;
        }
    }

    private static boolean isHome(int[] rows, int from) {
        for (int d = 0; d < DANCERS; d++) {
            if (rows[from + d] != QUARTERS * HOME_SPOTS[d] + HOME_FACINGS[d]) {
                return false;
            }
        }
        return true;
    }

    /** The characters written and not yet defined or wiped. */
    private static final class Text {
        private static final int BYTES = 8;

        private final char[] characters = new char[MOST_CHARACTERS];
        private int length;

        boolean add(long bytes) {
            if (!fits(bytes)) {
                return false;
            }
            for (int i = 0; i < BYTES; i++) {
                int code = byteAt(bytes, i);
                if (code != 0 && length < MOST_CHARACTERS) {
                    characters[length] = (char) code;
                    length++;
                }
            }
            return true;
        }

        int clear() {
            int had = length;
            length = 0;
            return had;
        }

        private boolean fits(long bytes) {
            int added = 0;
            for (int i = 0; i < BYTES; i++) {
                int code = byteAt(bytes, i);
                if (code != 0) {
                    if (code < 32 || code > 126) {
                        return false;
                    }
                    added++;
                }
            }
            return length + added <= MOST_CHARACTERS;
        }

        private static int byteAt(long bytes, int i) {
            return (int) (bytes >>> 8 * i) & 0xFF;
        }
    }

    /** Goes through the text token by token. */
    private static final class Tokens {
        static final int END = 0;
        static final int WORD = 1;
        static final int NUMBER = 2;
        static final int SIGN = 3;
        static final long TOO_LONG = 0;
        private static final int LONGEST_WORD = 8;

        private final Text text;
        private int kind;
        private int start;
        private int end;
        private long word;
        private int digit;
        private char sign;

        Tokens(Text text) {
            this.text = text;
        }

        void rewind() {
            end = 0;
        }

        void next() {
            start = end;
            while (start < text.length && text.characters[start] == ' ') {
                start++;
            }
            end = start;
            if (start == text.length) {
                kind = END;
            } else if (isBetween('a', 'z')) {
                passWord();
            } else if (isBetween('0', '9')) {
                passNumber();
            } else {
                // A character that is no token passes as a sign too: no reader waits for it.
                kind = SIGN;
                sign = text.characters[start];
                end++;
            }
        }

        boolean isSign(char wanted) {
            return kind == SIGN && sign == wanted;
        }

        /** Which of the words, parted by blanks, the token is, or NONE. */
        int indexIn(String words) {
            int index = 0;
            long read = 0;
            for (int i = 0; i < words.length(); i++) {
                if (words.charAt(i) != ' ') {
                    read = packed(read, words.charAt(i));
                } else if (read == word) {
                    return index;
                } else {
                    index++;
                    read = 0;
                }
            }
            return read == word ? index : NONE;
        }

        private void passWord() {
            kind = WORD;
            word = 0;
            while (end < text.length && isBetween('a', 'z')) {
                if (end - start < LONGEST_WORD) {
                    word = packed(word, text.characters[end]);
                }
                end++;
            }
            if (end - start > LONGEST_WORD) {
                word = TOO_LONG;
            }
        }

        private void passNumber() {
            kind = NUMBER;
            digit = text.characters[start] - '0';
            while (end < text.length && isBetween('0', '9')) {
                end++;
            }
            if (end - start > 1) {
                digit = NONE;
            }
        }

        private boolean isBetween(char low, char high) {
            return text.characters[end] >= low && text.characters[end] <= high;
        }

        /** Eight letters fit a long, so names are compared without making texts. */
        private static long packed(long letters, char letter) {
            return 32 * letters + (letter - 'a' + 1);
        }
    }

    /**
     * A call, its older calls and brackets written out as beats.
     *
     * A beat keeps before which beat of the call its selectors are taken: that is all that dancing
     * has to know of the calls within.
     */
    private static final class Figure {
        private static final int OWN = -1;

        private final int[] firstParts = new int[MOST_BEATS];
        private final int[] endParts = new int[MOST_BEATS];
        private final int[] takenAt = new int[MOST_BEATS];
        private long name;
        private int beatCount;
        private int depth;
        private boolean allowed;

        void begin() {
            beatCount = 0;
            depth = 1;
        }

        void addOwnBeat(int firstPart, int endPart) {
            addBeat(firstPart, endPart, OWN);
        }

        void addFigure(Figure old) {
            int from = beatCount;
            for (int i = 0; i < old.beatCount; i++) {
                addBeat(old.firstParts[i], old.endParts[i], from + old.takenAt[i]);
            }
            depth = Math.max(depth, old.depth + 1);
        }

        /** Dances what has come since a beat so many times in all; older calls in it take their selectors anew. */
        void repeat(int from, int times) {
            int end = beatCount;
            for (int round = 1; round < times; round++) {
                int later = round * (end - from);
                for (int i = from; i < end && i < MOST_BEATS; i++) {
                    addBeat(firstParts[i], endParts[i], takenAt[i] == OWN ? OWN : takenAt[i] + later);
                }
            }
        }

        boolean isTooLarge() {
            return beatCount > MOST_BEATS || depth > MOST_DEEP;
        }

        /** Only now, with no bracket left to repeat, are the own beats told by the call's first beat. */
        void settle() {
            for (int i = 0; i < beatCount && i < MOST_BEATS; i++) {
                if (takenAt[i] == OWN) {
                    takenAt[i] = 0;
                }
            }
        }

        /** The count stops one above the most, which is enough to know that they are too many. */
        private void addBeat(int firstPart, int endPart, int taken) {
            if (beatCount < MOST_BEATS) {
                firstParts[beatCount] = firstPart;
                endParts[beatCount] = endPart;
                takenAt[beatCount] = taken;
            }
            if (beatCount <= MOST_BEATS) {
                beatCount++;
            }
        }
    }

    /** The calls that there are, the draft of the next one, and the parts of their beats. */
    private static final class Book {
        // A part takes seven characters at least, such as ",all tl", so a text has less than this.
        private static final int MOST_PARTS = MOST_CHARACTERS / 6;

        private final Figure[] figures = new Figure[MOST_CALLS + 1];
        private final int[] selectors = new int[MOST_PARTS * (MOST_CALLS + 1)];
        private final int[] atoms = new int[MOST_PARTS * (MOST_CALLS + 1)];
        private int count;
        private int keptParts;
        private int partCount;

        Book() {
            for (int i = 0; i < figures.length; i++) {
                figures[i] = new Figure();
            }
        }

        boolean has(int call) {
            return call >= 0 && call < count;
        }

        boolean isFull() {
            return count >= MOST_CALLS;
        }

        Figure figure(int call) {
            return figures[call];
        }

        /** The call with a name, or NONE. */
        int find(long name) {
            for (int i = 0; i < count; i++) {
                if (figures[i].name == name) {
                    return i;
                }
            }
            return NONE;
        }

        /** The draft has a row of its own even behind the last call, whose text is still to be read. */
        Figure beginDraft() {
            partCount = keptParts;
            figures[count].begin();
            return figures[count];
        }

        void addPart(int selector, int atom) {
            if (partCount < selectors.length) {
                selectors[partCount] = selector;
                atoms[partCount] = atom;
                partCount++;
            }
        }

        int keepDraft() {
            figures[count].settle();
            keptParts = partCount;
            count++;
            return count - 1;
        }

        int countAllowedBeside(int call) {
            int others = 0;
            for (int i = 0; i < count; i++) {
                if (i != call && figures[i].allowed) {
                    others++;
                }
            }
            return others;
        }
    }

    /** Reads the text as a call into the book's draft. */
    private static final class Reader {
        private static final String SELECTOR_WORDS =
            "all leads follows heads sides north east south west centres ends front rear";
        private static final String ATOM_WORDS = "stay fwd back left right tl tr";

        // What the next token has to be.
        private static final int NAME = 0;
        private static final int EQUALS = 1;
        private static final int STEP = 2;
        private static final int BRACKET = 3;
        private static final int SELECTOR = 4;
        private static final int ATOM = 5;
        private static final int BEHIND_PART = 6;
        private static final int BEHIND_STEP = 7;

        private final Text text;
        private final Book book;
        private final Tokens tokens;
        private final int[] times = new int[MOST_BRACKETS];
        private final int[] openedAt = new int[MOST_BRACKETS];
        private Figure draft;
        private int open;
        private int expected;
        private int beatStart;
        private int selector;

        Reader(Text text, Book book) {
            this.text = text;
            this.book = book;
            tokens = new Tokens(text);
            draft = book.beginDraft();
        }

        /** The fault, or NONE if the text is a call. */
        int read() {
            draft = book.beginDraft();
            tokens.rewind();
            open = 0;
            expected = NAME;
            // Each token has a character at least.
            for (int i = 0; i < MOST_CHARACTERS; i++) {
                tokens.next();
                if (tokens.kind == Tokens.END) {
                    break;
                }
                if (!takes()) {
                    return tokens.start;
                }
            }
            return isWhole() && !draft.isTooLarge() ? NONE : text.length;
        }

        private boolean takes() {
            switch (expected) {
                case NAME:
                    return takesName();
                case EQUALS:
                    return takesSign('=', STEP);
                case STEP:
                    return takesStep();
                case BRACKET:
                    return takesBracket();
                case SELECTOR:
                    return takesSelector();
                case ATOM:
                    return takesAtom();
                case BEHIND_PART:
                    return takesSign(',', SELECTOR) || takesEndOfBeat();
                default:
                    return takesEndOfStep();
            }
        }

        private boolean takesSign(char sign, int next) {
            if (!tokens.isSign(sign)) {
                return false;
            }
            expected = next;
            return true;
        }

        private boolean takesName() {
            if (tokens.kind != Tokens.WORD || tokens.word == Tokens.TOO_LONG || book.find(tokens.word) != NONE
                || tokens.indexIn(SELECTOR_WORDS) != NONE || tokens.indexIn(ATOM_WORDS) != NONE) {
                return false;
            }
            draft.name = tokens.word;
            expected = EQUALS;
            return true;
        }

        private boolean takesStep() {
            beatStart = book.partCount;
            return takesTimes() || takesOld() || takesSelector();
        }

        /** Within the most brackets already the number is the fault, since no bracket could follow it. */
        private boolean takesTimes() {
            if (tokens.kind != Tokens.NUMBER || tokens.digit < 2 || tokens.digit > 4 || open >= MOST_BRACKETS) {
                return false;
            }
            times[open] = tokens.digit;
            expected = BRACKET;
            return true;
        }

        private boolean takesBracket() {
            if (!takesSign('(', STEP) || open >= MOST_BRACKETS) {
                return false;
            }
            openedAt[open] = draft.beatCount;
            open++;
            return true;
        }

        private boolean takesOld() {
            int old = tokens.kind == Tokens.WORD ? book.find(tokens.word) : NONE;
            if (old == NONE) {
                return false;
            }
            draft.addFigure(book.figure(old));
            expected = BEHIND_STEP;
            return true;
        }

        private boolean takesSelector() {
            selector = tokens.kind == Tokens.WORD ? tokens.indexIn(SELECTOR_WORDS) : NONE;
            expected = ATOM;
            return selector != NONE;
        }

        private boolean takesAtom() {
            int atom = tokens.kind == Tokens.WORD ? tokens.indexIn(ATOM_WORDS) : NONE;
            if (atom == NONE) {
                return false;
            }
            book.addPart(selector, atom);
            expected = BEHIND_PART;
            return true;
        }

        private boolean takesEndOfBeat() {
            draft.addOwnBeat(beatStart, book.partCount);
            return takesEndOfStep();
        }

        private boolean takesEndOfStep() {
            if (takesSign(';', STEP)) {
                return true;
            }
            if (open == 0 || !takesSign(')', BEHIND_STEP)) {
                return false;
            }
            open--;
            draft.repeat(openedAt[open], times[open]);
            return true;
        }

        private boolean isWhole() {
            if (expected == BEHIND_PART) {
                draft.addOwnBeat(beatStart, book.partCount);
                expected = BEHIND_STEP;
            }
            return expected == BEHIND_STEP && open == 0;
        }
    }

    /** Tells whom a selector has, as one bit a dancer. */
    private static final class Selection {
        private static final int ALL = 0;
        private static final int LEADS = 1;
        private static final int FOLLOWS = 2;
        private static final int HEADS = 3;
        private static final int SIDES = 4;
        private static final int NORTH = 5;
        private static final int CENTRES = 9;
        private static final int ENDS = 10;
        private static final int FRONT = 11;
        private static final int REAR = 12;

        // Dancer 0 has the lowest bit.
        private static final int EVERYBODY = 0b11111111;
        private static final int THE_LEADS = 0b01010101;
        private static final int THE_HEADS = 0b00110011;

        private final int[] distances = new int[DANCERS];

        int chosen(int selector, int[] rows, int from) {
            switch (selector) {
                case ALL:
                    return EVERYBODY;
                case LEADS:
                    return THE_LEADS;
                case FOLLOWS:
                    return EVERYBODY ^ THE_LEADS;
                case HEADS:
                    return THE_HEADS;
                case SIDES:
                    return EVERYBODY ^ THE_HEADS;
                case CENTRES:
                    return centres(rows, from);
                case ENDS:
                    return EVERYBODY ^ centres(rows, from);
                case FRONT:
                    return free(rows, from, 0);
                case REAR:
                    return free(rows, from, 2);
                default:
                    return facing(rows, from, selector - NORTH);
            }
        }

        private static int facing(int[] rows, int from, int wanted) {
            int chosen = 0;
            for (int d = 0; d < DANCERS; d++) {
                if (rows[from + d] % QUARTERS == wanted) {
                    chosen |= 1 << d;
                }
            }
            return chosen;
        }

        private int centres(int[] rows, int from) {
            measure(rows, from);
            int chosen = 0;
            for (int d = 0; d < DANCERS; d++) {
                int nearer = 0;
                for (int other = 0; other < DANCERS; other++) {
                    if (distances[other] < distances[d]) {
                        nearer++;
                    }
                }
                if (nearer < DANCERS / 2) {
                    chosen |= 1 << d;
                }
            }
            return chosen;
        }

        /** The spot stands behind the distance's last digit, so that no two dancers are equally near. */
        private void measure(int[] rows, int from) {
            int sumX = 0;
            int sumY = 0;
            for (int d = 0; d < DANCERS; d++) {
                int spot = rows[from + d] / QUARTERS;
                sumX += spot % SIDE;
                sumY += spot / SIDE;
            }
            for (int d = 0; d < DANCERS; d++) {
                int spot = rows[from + d] / QUARTERS;
                int acrossX = DANCERS * (spot % SIDE) - sumX;
                int acrossY = DANCERS * (spot / SIDE) - sumY;
                distances[d] = (acrossX * acrossX + acrossY * acrossY) * SIDE * SIDE + spot;
            }
        }

        /** Those who have nobody in the direction so many quarters to the right of their facing. */
        private static int free(int[] rows, int from, int quarters) {
            int chosen = 0;
            for (int d = 0; d < DANCERS; d++) {
                int direction = (rows[from + d] + quarters) % QUARTERS;
                boolean alone = true;
                for (int other = 0; other < DANCERS && alone; other++) {
                    alone = !liesTowards(rows[from + d] / QUARTERS, rows[from + other] / QUARTERS, direction);
                }
                if (alone) {
                    chosen |= 1 << d;
                }
            }
            return chosen;
        }

        private static boolean liesTowards(int spot, int other, int direction) {
            int east = other % SIDE - spot % SIDE;
            int north = other / SIDE - spot / SIDE;
            switch (direction) {
                case 0:
                    return east == 0 && north > 0;
                case 1:
                    return north == 0 && east > 0;
                case 2:
                    return east == 0 && north < 0;
                default:
                    return north == 0 && east < 0;
            }
        }
    }

    /** Where the dancers stood before the first beat of a call and behind each of its beats. */
    private static final class Track {
        private final int[] rows = new int[(MOST_BEATS + 1) * DANCERS];
        private int beatCount;

        void begin(int[] from, int offset) {
            System.arraycopy(from, offset, rows, 0, DANCERS);
            beatCount = 0;
        }

        int place(int beat, int dancer) {
            return rows[beat * DANCERS + dancer];
        }

        void copyRow(int beat, int[] to, int offset) {
            System.arraycopy(rows, beat * DANCERS, to, offset, DANCERS);
        }

        boolean endsAtHome() {
            return isHome(rows, beatCount * DANCERS);
        }

        boolean endsAs(Track other) {
            for (int d = 0; d < DANCERS; d++) {
                if (place(beatCount, d) != other.place(other.beatCount, d)) {
                    return false;
                }
            }
            return true;
        }
    }

    /** Dances the beats of calls along tracks. */
    private static final class Dancing {
        private static final int LEAVES = 1;
        private static final int MEETS = 2;
        private static final int CROSSES = 3;
        private static final int OFF_THE_FLOOR = -1;

        // In the order of the reader's words.
        private static final int STAY = 0;
        private static final int FWD = 1;
        private static final int BACK = 2;
        private static final int LEFT = 3;
        private static final int RIGHT = 4;
        private static final int TL = 5;
        private static final int TR = 6;
        private static final int[] EXCHANGED = {STAY, BACK, FWD, RIGHT, LEFT, TR, TL};
        // By facing, how the spot's number grows to the next one.
        private static final int[] STRIDES = {SIDE, 1, -SIDE, -1};

        private final Book book;
        private final Selection selection = new Selection();
        private final int[] atoms = new int[DANCERS];

        Dancing(Book book) {
            this.book = book;
        }

        /** From where the track begins: 0, or 10 times the number of the beat that fails and the clash. */
        int follow(Track track, Figure figure, boolean reversed) {
            for (int i = 0; i < figure.beatCount; i++) {
                if (reversed) {
                    giveAtoms(track, figure, figure.beatCount - 1 - i, 0);
                    exchangeAtoms();
                } else {
                    giveAtoms(track, figure, i, figure.takenAt[i]);
                }
                int clash = step(track.rows, i * DANCERS);
                if (clash != 0) {
                    return 10 * (i + 1) + clash;
                }
                track.beatCount = i + 1;
            }
            return 0;
        }

        private void giveAtoms(Track track, Figure figure, int beat, int taken) {
            for (int d = 0; d < DANCERS; d++) {
                atoms[d] = STAY;
            }
            int waiting = Selection.EVERYBODY;
            for (int part = figure.firstParts[beat]; part < figure.endParts[beat]; part++) {
                int chosen = waiting & selection.chosen(book.selectors[part], track.rows, taken * DANCERS);
                for (int d = 0; d < DANCERS; d++) {
                    if ((chosen >> d & 1) == 1) {
                        atoms[d] = book.atoms[part];
                    }
                }
                waiting ^= chosen;
            }
        }

        private void exchangeAtoms() {
            for (int d = 0; d < DANCERS; d++) {
                atoms[d] = EXCHANGED[atoms[d]];
            }
        }

        /** Fills the next row from the one that begins at an index: the clash, or 0. */
        private int step(int[] rows, int before) {
            int behind = before + DANCERS;
            for (int d = 0; d < DANCERS; d++) {
                int place = moved(rows[before + d], atoms[d]);
                if (place == OFF_THE_FLOOR) {
                    return LEAVES;
                }
                rows[behind + d] = place;
            }
            boolean crosses = false;
            for (int a = 0; a < DANCERS; a++) {
                for (int b = a + 1; b < DANCERS; b++) {
                    if (rows[behind + a] / QUARTERS == rows[behind + b] / QUARTERS) {
                        return MEETS;
                    }
                    crosses = crosses || isCrossing(rows, before, a, b);
                }
            }
            return crosses ? CROSSES : 0;
        }

        private static int moved(int place, int atom) {
            switch (atom) {
                case FWD:
                    return gone(place, 0);
                case RIGHT:
                    return gone(place, 1);
                case BACK:
                    return gone(place, 2);
                case LEFT:
                    return gone(place, 3);
                case TR:
                    return turned(place, 1);
                case TL:
                    return turned(place, 3);
                default:
                    return place;
            }
        }

        private static int turned(int place, int quarters) {
            return place / QUARTERS * QUARTERS + (place + quarters) % QUARTERS;
        }

        private static int gone(int place, int quarters) {
            int spot = place / QUARTERS;
            int direction = (place + quarters) % QUARTERS;
            boolean leaves;
            switch (direction) {
                case 0:
                    leaves = spot / SIDE == SIDE - 1;
                    break;
                case 1:
                    leaves = spot % SIDE == SIDE - 1;
                    break;
                case 2:
                    leaves = spot / SIDE == 0;
                    break;
                default:
                    leaves = spot % SIDE == 0;
                    break;
            }
            return leaves ? OFF_THE_FLOOR : place + QUARTERS * STRIDES[direction];
        }

        private static boolean isCrossing(int[] rows, int before, int a, int b) {
            int spotA = rows[before + a] / QUARTERS;
            int spotB = rows[before + b] / QUARTERS;
            if (rows[before + DANCERS + a] / QUARTERS != spotB || rows[before + DANCERS + b] / QUARTERS != spotA) {
                return false;
            }
            // Who change spots in one beat stand next to each other, so strides tell who has whom before them.
            int strideA = STRIDES[rows[before + a] % QUARTERS];
            int strideB = STRIDES[rows[before + b] % QUARTERS];
            boolean faceToFace = spotA + strideA == spotB && spotB + strideB == spotA;
            boolean backToBack = spotA - strideA == spotB && spotB - strideB == spotA;
            return !faceToFace && !backToBack;
        }
    }

    /** Looks through rows of allowed calls, shorter ones first, and of as long ones the least first. */
    private static final class WayHome {
        private static final int LONGEST = 4;
        // What rows of less than four of five calls can come to: 1 + 5 + 25 + 125.
        private static final int MOST_NODES = 156;

        private final Book book;
        private final Dancing dancing;
        private final int[] rows = new int[MOST_NODES * DANCERS];
        private final int[] parents = new int[MOST_NODES];
        private final int[] lastCalls = new int[MOST_NODES];
        private final int[] calls = new int[LONGEST];
        private int nodes;
        private int found;

        WayHome(Book book, Dancing dancing) {
            this.book = book;
            this.dancing = dancing;
        }

        /** How many calls the way has, or NONE. */
        int search(int[] places, Track trial) {
            found = 0;
            if (isHome(places, 0)) {
                return 0;
            }
            System.arraycopy(places, 0, rows, 0, DANCERS);
            nodes = 1;
            int from = 0;
            for (int length = 1; length <= LONGEST; length++) {
                int end = nodes;
                for (int node = from; node < end; node++) {
                    if (branches(node, length, trial)) {
                        return length;
                    }
                }
                from = end;
            }
            return NONE;
        }

        private boolean branches(int node, int length, Track trial) {
            for (int call = 0; call < book.count; call++) {
                if (book.figures[call].allowed) {
                    trial.begin(rows, node * DANCERS);
                    if (dancing.follow(trial, book.figures[call], false) == 0) {
                        if (trial.endsAtHome()) {
                            recall(node, call, length);
                            return true;
                        }
                        if (length < LONGEST) {
                            addNode(node, call, trial);
                        }
                    }
                }
            }
            return false;
        }

        private void addNode(int parent, int call, Track trial) {
            if (nodes < MOST_NODES) {
                trial.copyRow(trial.beatCount, rows, nodes * DANCERS);
                parents[nodes] = parent;
                lastCalls[nodes] = call;
                nodes++;
            }
        }

        private void recall(int node, int call, int length) {
            found = length;
            calls[length - 1] = call;
            int at = node;
            for (int i = length - 2; i >= 0; i--) {
                calls[i] = lastCalls[at];
                at = parents[at];
            }
        }
    }

    /** Tells the form that the dancers' spots have. */
    private static final class Shape {
        private static final int OTHER = 0;
        private static final int LINE = 1;
        private static final int BLOCK = 2;
        private static final int RING = 3;
        private static final int FRAME = 4;

        static int of(int[] places) {
            int west = SIDE;
            int east = 0;
            int south = SIDE;
            int north = 0;
            for (int d = 0; d < DANCERS; d++) {
                int spot = places[d] / QUARTERS;
                west = Math.min(west, spot % SIDE);
                east = Math.max(east, spot % SIDE);
                south = Math.min(south, spot / SIDE);
                north = Math.max(north, spot / SIDE);
            }
            int longer = Math.max(east - west, north - south) + 1;
            int shorter = Math.min(east - west, north - south) + 1;
            // Eight dancers on eight spots leave none of them free.
            if (shorter == 1 && longer == 8) {
                return LINE;
            }
            if (shorter == 2 && longer == 4) {
                return BLOCK;
            }
            if (shorter == 4 && longer == 4 && countWithEdges(places, west, south, 4, 1) == DANCERS) {
                return RING;
            }
            if (shorter == 3 && longer == 3 && countWithEdges(places, west, south, 3, 0) == 0) {
                return FRAME;
            }
            return OTHER;
        }

        /** How many stand at so many edges of a square: two in a corner, one at a side, none within. */
        private static int countWithEdges(int[] places, int west, int south, int size, int wanted) {
            int count = 0;
            for (int d = 0; d < DANCERS; d++) {
                int x = places[d] / QUARTERS % SIDE - west;
                int y = places[d] / QUARTERS / SIDE - south;
                int edges = (x == 0 || x == size - 1 ? 1 : 0) + (y == 0 || y == size - 1 ? 1 : 0);
                if (edges == wanted) {
                    count++;
                }
            }
            return count;
        }
    }
}
