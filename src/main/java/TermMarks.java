/**
 * A glossary linker: chapters of words, terms that are read in them from left to right, and a mark
 * at the first use of each term in each chapter. The promises are numbered in DOC.md.
 *
 * <p>All rows are made once, with the object, so that no call makes objects of its own.
 */
public final class TermMarks {
    public static final int INVALID_ARGUMENT = -1;
    public static final int ILLEGAL_STATE = -2;
    public static final int CAPACITY_EXCEEDED = -3;
    public static final int NONE = -99;

    private static final int NO_WORD = -1;
    private static final int LAST_CHARACTER = 255;
    private static final int GAIN_ZERO = 100;

    private final State state = new State();
    private final State trial = new State();
    private final History history = new History();
    private final Loader loader = new Loader();
    private final Reading reading = new Reading();
    private final int[] asked = new int[Terms.LONGEST];

    public TermMarks() {
    }

    // ---- chapters

    public int insert(int chapter, int place, int word) {
        Chapters chapters = state.chapters;
        if (!chapters.has(chapter) || place < 0 || place > chapters.lengthOf(chapter) || !state.words.has(word)) {
            return INVALID_ARGUMENT;
        }
        if (chapters.lengthOf(chapter) >= Chapters.ROOM) {
            return CAPACITY_EXCEEDED;
        }
        history.keep(state);
        chapters.put(chapter, place, word);
        return chapters.lengthOf(chapter);
    }

    public int delete(int chapter, int from, int to) {
        Chapters chapters = state.chapters;
        if (!chapters.hasPlace(chapter, from) || !chapters.hasPlace(chapter, to) || to < from) {
            return INVALID_ARGUMENT;
        }
        history.keep(state);
        chapters.cut(chapter, from, to);
        return chapters.lengthOf(chapter);
    }

    public int replace(int word, int other) {
        if (!state.words.has(word) || !state.words.has(other) || word == other) {
            return INVALID_ARGUMENT;
        }
        history.keep(state);
        return state.chapters.exchange(word, other);
    }

    public int swap(int one, int other) {
        if (!state.chapters.has(one) || !state.chapters.has(other)) {
            return INVALID_ARGUMENT;
        }
        history.keep(state);
        state.chapters.trade(one, other);
        return readNow().markCount();
    }

    // ---- terms and bases

    public int addTerm(int first, int second, int third, int fourth) {
        int length = ask(first, second, third, fourth);
        if (length < 0) {
            return length;
        }
        if (state.terms.size() >= Terms.LIMIT) {
            return CAPACITY_EXCEEDED;
        }
        history.keep(state);
        state.terms.add(asked, length);
        return state.terms.size() - 1;
    }

    public int removeTerm(int term) {
        if (!state.terms.has(term)) {
            return INVALID_ARGUMENT;
        }
        history.keep(state);
        state.terms.drop(term);
        return state.terms.size();
    }

    public int setQuiet(int term, int quiet) {
        if (!state.terms.has(term) || quiet < 0 || quiet > 1) {
            return INVALID_ARGUMENT;
        }
        history.keep(state);
        state.terms.hush(term, quiet == 1);
        return readNow().markCount();
    }

    public int setBase(int word, int base) {
        if (!state.words.has(word) || !state.words.has(base)) {
            return INVALID_ARGUMENT;
        }
        if (!state.mayHaveBase(word, base)) {
            return ILLEGAL_STATE;
        }
        history.keep(state);
        int previous = state.words.baseOf(word);
        state.words.putBase(word, base);
        return previous;
    }

    // ---- snapshots

    public int take(int slot) {
        if (!state.hasSlot(slot)) {
            return INVALID_ARGUMENT;
        }
        history.keep(state);
        state.keepChapters(slot);
        return state.chapters.total();
    }

    public int restore(int slot) {
        if (!state.hasSlot(slot)) {
            return INVALID_ARGUMENT;
        }
        if (!state.isTaken(slot)) {
            return ILLEGAL_STATE;
        }
        history.keep(state);
        state.bringChapters(slot);
        return state.chapters.total();
    }

    public int undo() {
        if (history.size() == 0) {
            return ILLEGAL_STATE;
        }
        history.giveBack(state);
        return history.size();
    }

    // ---- text

    public int append(int character) {
        if (character < 1 || character > LAST_CHARACTER) {
            return INVALID_ARGUMENT;
        }
        if (loader.text.length() >= Text.ROOM) {
            return CAPACITY_EXCEEDED;
        }
        loader.text.add(character);
        return loader.text.length();
    }

    public int clearText() {
        int previous = loader.text.length();
        loader.text.empty();
        return previous;
    }

    public int load() {
        int answer = loader.read(state);
        if (answer < 0) {
            return answer;
        }
        history.keep(state);
        state.copyFrom(loader.state);
        loader.text.empty();
        return answer;
    }

    // ---- looking

    public int count(int what) {
        switch (what) {
            case 0: return state.words.size();
            case 1: return state.chapters.total();
            case 2: return state.terms.size();
            case 3: return state.terms.quietCount();
            case 4: return readNow().markCount();
            case 5: return readNow().readingCount();
            case 6: return state.words.formCount();
            case 7: return state.takenCount();
            case 8: return history.size();
            case 9: return loader.text.length();
            default: return INVALID_ARGUMENT;
        }
    }

    public int letter(int word, int index) {
        if (!state.words.has(word) || index < 0) {
            return INVALID_ARGUMENT;
        }
        return state.words.letterAt(word, index);
    }

    public int base(int word) {
        return state.words.has(word) ? state.words.baseOf(word) : INVALID_ARGUMENT;
    }

    public int place(int chapter, int place, int what) {
        if (!state.chapters.has(chapter) || place < 0 || what < 0 || what > 3) {
            return INVALID_ARGUMENT;
        }
        if (!state.chapters.hasPlace(chapter, place)) {
            return NONE;
        }
        switch (what) {
            case 0: return state.chapters.wordAt(chapter, place);
            case 1: return readNow().termOver(chapter, place);
            case 2: return readNow().stepOver(chapter, place);
            default: return readNow().hasMark(chapter, place) ? 1 : 0;
        }
    }

    public int term(int term, int what) {
        if (!state.terms.has(term)) {
            return INVALID_ARGUMENT;
        }
        switch (what) {
            case 0: return state.terms.lengthOf(term);
            case 1:
            case 2:
            case 3:
            case 4: return state.terms.wordAt(term, what - 1);
            case 5: return state.terms.isQuiet(term) ? 1 : 0;
            case 6: return readNow().timesRead(term);
            case 7: return state.occurrences(term);
            case 8: return readNow().marksOf(term);
            default: return INVALID_ARGUMENT;
        }
    }

    public int firstUse(int term, int chapter) {
        if (!state.terms.has(term) || !state.chapters.has(chapter)) {
            return INVALID_ARGUMENT;
        }
        return readNow().firstPlace(term, chapter);
    }

    public int mark(int mark, int what) {
        if (mark < 0 || what < 0 || what > 2) {
            return INVALID_ARGUMENT;
        }
        return readNow().markPart(mark, what);
    }

    // ---- reasons, and what would be, which changes nothing

    public int why(int chapter, int place, int term) {
        if (!state.chapters.hasPlace(chapter, place) || !state.terms.has(term)) {
            return INVALID_ARGUMENT;
        }
        if (!state.occursAt(term, chapter, place)) {
            return 1;
        }
        Reading now = readNow();
        if (now.stepOver(chapter, place) > 0) {
            return 3;
        }
        // What occurs at a place that no earlier reading covers is read there, or a longer term is.
        if (now.termOver(chapter, place) != term) {
            return 2;
        }
        if (state.terms.isQuiet(term)) {
            return 4;
        }
        return now.firstPlace(term, chapter) == place ? 0 : 5;
    }

    public int nested(int inner, int outer) {
        if (!state.terms.has(inner) || !state.terms.has(outer)) {
            return INVALID_ARGUMENT;
        }
        return state.timesWithin(inner, outer);
    }

    public int gain(int first, int second, int third, int fourth) {
        int length = ask(first, second, third, fourth);
        if (length < 0) {
            return length;
        }
        int before = readNow().markCount();
        trial.copyFrom(state);
        trial.terms.add(asked, length);
        reading.read(trial);
        return GAIN_ZERO + reading.markCount() - before;
    }

    public int greediest() {
        int best = NONE;
        int most = -1;
        for (int term = 0; term < state.terms.size(); term++) {
            trial.copyFrom(state);
            trial.terms.drop(term);
            reading.read(trial);
            if (reading.markCount() > most) {
                most = reading.markCount();
                best = term;
            }
        }
        return best;
    }

    /** Reads the chapters as they are now; nothing of a reading is kept from call to call. */
    private Reading readNow() {
        reading.read(state);
        return reading;
    }

    /** Puts the words of a term that is asked for into the row for it and returns their number, or an error code. */
    private int ask(int first, int second, int third, int fourth) {
        asked[0] = first;
        asked[1] = second;
        asked[2] = third;
        asked[3] = fourth;
        int length = askedLength();
        if (length > 0 && state.terms.hasLike(state.words, asked, length)) {
            return ILLEGAL_STATE;
        }
        return length;
    }

    private int askedLength() {
        int length = 0;
        for (int i = 0; i < Terms.LONGEST; i++) {
            if (asked[i] == NO_WORD) {
                continue;
            }
            if (!state.words.has(asked[i]) || i > length) {
                return INVALID_ARGUMENT;
            }
            length++;
        }
        return length == 0 ? INVALID_ARGUMENT : length;
    }

    /** The words that there are, and their bases. */
    private static final class Words {
        static final int ROOM = 60;
        static final int LONGEST = 8;
        private static final int BITS = 8;
        private static final int LETTER = 255;

        /** A word's letters are the bytes of one number, the first letter the lowest, with 0 behind the last. */
        private final long[] spellings = new long[ROOM];
        private final int[] bases = new int[ROOM];
        private int size = 0;

        Words() {
            for (int letter = 'a'; letter <= 'z'; letter++) {
                add(letter);
            }
        }

        /** The spelling with one letter more; index is the place of the letter in the word. */
        static long spell(long spelling, int index, int letter) {
            return spelling | (long) letter << index * BITS;
        }

        int size() {
            return size;
        }

        boolean has(int word) {
            return word >= 0 && word < size;
        }

        /** Returns the number of the new word, NONE if there is no room for it. */
        int add(long spelling) {
            if (size >= ROOM) {
                return NONE;
            }
            spellings[size] = spelling;
            bases[size] = size;
            size++;
            return size - 1;
        }

        int find(long spelling) {
            for (int word = 0; word < size; word++) {
                if (spellings[word] == spelling) {
                    return word;
                }
            }
            return NONE;
        }

        int letterAt(int word, int index) {
            if (!has(word) || index < 0 || index >= LONGEST) {
                return NONE;
            }
            int letter = (int) (spellings[word] >>> index * BITS) & LETTER;
            return letter == 0 ? NONE : letter;
        }

        int baseOf(int word) {
            return word >= 0 && word < size ? bases[word] : NONE;
        }

        void putBase(int word, int base) {
            if (has(word) && has(base)) {
                bases[word] = base;
            }
        }

        boolean isForm(int word) {
            return baseOf(word) != word;
        }

        boolean hasForms(int word) {
            for (int form = 0; form < size; form++) {
                if (form != word && bases[form] == word) {
                    return true;
                }
            }
            return false;
        }

        int formCount() {
            int count = 0;
            for (int word = 0; word < size; word++) {
                if (bases[word] != word) {
                    count++;
                }
            }
            return count;
        }

        void copyFrom(Words other) {
            System.arraycopy(other.spellings, 0, spellings, 0, ROOM);
            System.arraycopy(other.bases, 0, bases, 0, ROOM);
            size = other.size;
        }
    }

    /** The words of all chapters. */
    private static final class Chapters {
        static final int COUNT = 6;
        static final int ROOM = 40;

        private final int[][] words = new int[COUNT][ROOM];
        private final int[] lengths = new int[COUNT];

        boolean has(int chapter) {
            return chapter >= 0 && chapter < COUNT;
        }

        boolean hasPlace(int chapter, int place) {
            return chapter >= 0 && chapter < COUNT && place >= 0 && place < lengths[chapter];
        }

        int lengthOf(int chapter) {
            return chapter >= 0 && chapter < COUNT ? lengths[chapter] : 0;
        }

        int wordAt(int chapter, int place) {
            if (chapter < 0 || chapter >= COUNT || place < 0 || place >= lengths[chapter]) {
                return NONE;
            }
            return words[chapter][place];
        }

        /** Puts a word in at a place; the words from there on move one place on. */
        void put(int chapter, int place, int word) {
            if (!has(chapter) || place < 0 || place > lengths[chapter] || lengths[chapter] >= ROOM) {
                return;
            }
            int[] row = words[chapter];
            for (int i = lengths[chapter]; i > place; i--) {
                row[i] = row[i - 1];
            }
            row[place] = word;
            lengths[chapter]++;
        }

        void cut(int chapter, int from, int to) {
            if (!hasPlace(chapter, from) || !hasPlace(chapter, to) || to < from) {
                return;
            }
            int[] row = words[chapter];
            int gone = to - from + 1;
            for (int i = to + 1; i < lengths[chapter]; i++) {
                row[i - gone] = row[i];
            }
            lengths[chapter] -= gone;
        }

        void empty(int chapter) {
            if (has(chapter)) {
                lengths[chapter] = 0;
            }
        }

        /** Puts another word wherever the word stands and returns the number of these places. */
        int exchange(int word, int other) {
            int changed = 0;
            for (int chapter = 0; chapter < COUNT; chapter++) {
                for (int place = 0; place < lengths[chapter]; place++) {
                    if (words[chapter][place] == word) {
                        words[chapter][place] = other;
                        changed++;
                    }
                }
            }
            return changed;
        }

        void trade(int one, int other) {
            if (!has(one) || !has(other)) {
                return;
            }
            int[] row = words[one];
            words[one] = words[other];
            words[other] = row;
            int length = lengths[one];
            lengths[one] = lengths[other];
            lengths[other] = length;
        }

        int total() {
            int total = 0;
            for (int chapter = 0; chapter < COUNT; chapter++) {
                total += lengths[chapter];
            }
            return total;
        }

        void copyFrom(Chapters other) {
            for (int chapter = 0; chapter < COUNT; chapter++) {
                System.arraycopy(other.words[chapter], 0, words[chapter], 0, ROOM);
            }
            System.arraycopy(other.lengths, 0, lengths, 0, COUNT);
        }
    }

    /** The terms, in the order in which they were added. */
    private static final class Terms {
        static final int LIMIT = 12;
        static final int LONGEST = 4;
        /** One row more than there can be terms, because gain() looks at one more. */
        static final int ROOM = LIMIT + 1;

        private final int[][] words = new int[ROOM][LONGEST];
        private final int[] lengths = new int[ROOM];
        private final boolean[] quiet = new boolean[ROOM];
        private int size = 0;

        int size() {
            return size;
        }

        boolean has(int term) {
            return term >= 0 && term < size;
        }

        int lengthOf(int term) {
            return term >= 0 && term < size ? lengths[term] : 0;
        }

        int wordAt(int term, int index) {
            if (term < 0 || term >= size || index < 0 || index >= lengths[term]) {
                return NONE;
            }
            return words[term][index];
        }

        boolean isQuiet(int term) {
            return has(term) && quiet[term];
        }

        int quietCount() {
            int count = 0;
            for (int term = 0; term < size; term++) {
                if (quiet[term]) {
                    count++;
                }
            }
            return count;
        }

        void hush(int term, boolean shallBeQuiet) {
            if (has(term)) {
                quiet[term] = shallBeQuiet;
            }
        }

        void add(int[] row, int length) {
            if (size >= ROOM || length < 1 || length > LONGEST || length > row.length) {
                return;
            }
            System.arraycopy(row, 0, words[size], 0, length);
            lengths[size] = length;
            quiet[size] = false;
            size++;
        }

        void drop(int term) {
            if (!has(term)) {
                return;
            }
            int[] row = words[term];
            for (int i = term + 1; i < size; i++) {
                words[i - 1] = words[i];
                lengths[i - 1] = lengths[i];
                quiet[i - 1] = quiet[i];
            }
            size--;
            words[size] = row;
        }

        /** Tells whether a term is like the row. */
        boolean hasLike(Words lexicon, int[] row, int length) {
            for (int term = 0; term < size; term++) {
                if (lengths[term] == length && sameBases(lexicon, words[term], row, length)) {
                    return true;
                }
            }
            return false;
        }

        boolean twoAreAlike(Words lexicon) {
            for (int one = 0; one < size; one++) {
                for (int other = one + 1; other < size; other++) {
                    if (lengths[one] == lengths[other]
                            && sameBases(lexicon, words[one], words[other], lengths[one])) {
                        return true;
                    }
                }
            }
            return false;
        }

        private static boolean sameBases(Words lexicon, int[] one, int[] other, int length) {
            for (int i = 0; i < length && i < one.length && i < other.length; i++) {
                if (lexicon.baseOf(one[i]) != lexicon.baseOf(other[i])) {
                    return false;
                }
            }
            return true;
        }

        void copyFrom(Terms other) {
            for (int term = 0; term < ROOM; term++) {
                System.arraycopy(other.words[term], 0, words[term], 0, LONGEST);
                lengths[term] = other.lengths[term];
                quiet[term] = other.quiet[term];
            }
            size = other.size;
        }
    }

    /** All that undo() brings back: words, chapters, terms and snapshots. */
    private static final class State {
        private static final int SLOTS = 2;

        private final Words words = new Words();
        private final Chapters chapters = new Chapters();
        private final Terms terms = new Terms();
        private final Chapters[] slots = new Chapters[SLOTS];
        private final boolean[] taken = new boolean[SLOTS];

        State() {
            for (int slot = 0; slot < SLOTS; slot++) {
                slots[slot] = new Chapters();
            }
        }

        boolean hasSlot(int slot) {
            return slot >= 0 && slot < SLOTS;
        }

        boolean isTaken(int slot) {
            return hasSlot(slot) && taken[slot];
        }

        int takenCount() {
            int count = 0;
            for (int slot = 0; slot < SLOTS; slot++) {
                if (taken[slot]) {
                    count++;
                }
            }
            return count;
        }

        void keepChapters(int slot) {
            if (hasSlot(slot)) {
                slots[slot].copyFrom(chapters);
                taken[slot] = true;
            }
        }

        void bringChapters(int slot) {
            if (isTaken(slot)) {
                chapters.copyFrom(slots[slot]);
            }
        }

        boolean mayHaveBase(int word, int base) {
            if (base != word && (words.isForm(base) || words.hasForms(word))) {
                return false;
            }
            int previous = words.baseOf(word);
            words.putBase(word, base);
            boolean alike = terms.twoAreAlike(words);
            words.putBase(word, previous);
            return !alike;
        }

        boolean occursAt(int term, int chapter, int place) {
            int length = terms.lengthOf(term);
            if (length == 0 || place < 0 || place > chapters.lengthOf(chapter) - length) {
                return false;
            }
            for (int i = 0; i < length; i++) {
                if (words.baseOf(terms.wordAt(term, i)) != words.baseOf(chapters.wordAt(chapter, place + i))) {
                    return false;
                }
            }
            return true;
        }

        int occurrences(int term) {
            int count = 0;
            for (int chapter = 0; chapter < Chapters.COUNT; chapter++) {
                for (int place = 0; place < chapters.lengthOf(chapter); place++) {
                    if (occursAt(term, chapter, place)) {
                        count++;
                    }
                }
            }
            return count;
        }

        /** The longest term that occurs at the place, NONE if none does. */
        int longestAt(int chapter, int place) {
            int longest = NONE;
            for (int term = 0; term < terms.size(); term++) {
                if (terms.lengthOf(term) > terms.lengthOf(longest) && occursAt(term, chapter, place)) {
                    longest = term;
                }
            }
            return longest;
        }

        int timesWithin(int inner, int outer) {
            int count = 0;
            for (int index = 0; index <= terms.lengthOf(outer) - terms.lengthOf(inner); index++) {
                if (occursWithin(inner, outer, index)) {
                    count++;
                }
            }
            return count;
        }

        private boolean occursWithin(int inner, int outer, int index) {
            for (int i = 0; i < terms.lengthOf(inner); i++) {
                if (words.baseOf(terms.wordAt(inner, i)) != words.baseOf(terms.wordAt(outer, index + i))) {
                    return false;
                }
            }
            return true;
        }

        void copyFrom(State other) {
            words.copyFrom(other.words);
            chapters.copyFrom(other.chapters);
            terms.copyFrom(other.terms);
            for (int slot = 0; slot < SLOTS; slot++) {
                slots[slot].copyFrom(other.slots[slot]);
                taken[slot] = other.taken[slot];
            }
        }
    }

    /** The latest states before actions, the oldest one first. */
    private static final class History {
        private static final int ROOM = 5;

        private final State[] states = new State[ROOM];
        private int size = 0;

        History() {
            for (int i = 0; i < ROOM; i++) {
                states[i] = new State();
            }
        }

        int size() {
            return size;
        }

        void keep(State state) {
            if (size >= ROOM) {
                dropOldest();
            }
            states[size].copyFrom(state);
            size++;
        }

        /** The rows of the dropped state are used again for the next one. */
        private void dropOldest() {
            State oldest = states[0];
            for (int i = 1; i < ROOM; i++) {
                states[i - 1] = states[i];
            }
            states[ROOM - 1] = oldest;
            size--;
        }

        /** Makes the state the latest one that is kept, and keeps that one no longer. */
        void giveBack(State state) {
            if (size > 0) {
                size--;
                state.copyFrom(states[size]);
            }
        }
    }

    /** The text that is to be loaded. */
    private static final class Text {
        static final int ROOM = 140;
        /** No character has this code. */
        static final int END = 0;

        private final int[] characters = new int[ROOM];
        private int length = 0;

        int length() {
            return length;
        }

        /** The character at an offset, END behind the last one. */
        int at(int offset) {
            return offset >= 0 && offset < length ? characters[offset] : END;
        }

        void add(int character) {
            if (length < ROOM) {
                characters[length] = character;
                length++;
            }
        }

        void empty() {
            length = 0;
        }
    }

    /**
     * Reads its text token by token and carries the items out on a state of its own, so that an
     * error leaves nothing behind. A method that answers false stops with the token that is not
     * allowed as the present one.
     */
    private static final class Loader {
        private static final int FIRST_ERROR = -1000;

        private final Text text = new Text();
        private final State state = new State();
        private final int[] row = new int[Terms.LONGEST];
        private int start = 0;
        private int end = 0;

        /** Begins with a copy of the state; returns the number of items, or -1000 minus the error position. */
        int read(State before) {
            state.copyFrom(before);
            end = 0;
            step();
            for (int items = 0; items <= Text.ROOM; items++) {
                if (start >= text.length()) {
                    return items;
                }
                boolean fine;
                if (isWord("ch")) {
                    fine = readChapter();
                } else if (isWord("term")) {
                    fine = readTerm();
                } else {
                    fine = isWord("form") && readForm();
                }
                if (!fine) {
                    break;
                }
            }
            return FIRST_ERROR - start;
        }

        private boolean readChapter() {
            step();
            int chapter = text.at(start) - '0';
            if (!state.chapters.has(chapter)) {
                return false;
            }
            step();
            if (!pass(':')) {
                return false;
            }
            state.chapters.empty(chapter);
            for (int place = 0; place < Chapters.ROOM && isRun(); place++) {
                int word = readWord();
                if (word == NONE) {
                    return false;
                }
                state.chapters.put(chapter, place, word);
            }
            return pass(';');
        }

        private boolean readTerm() {
            step();
            int length = 0;
            while (length < Terms.LONGEST && isRun()) {
                int word = readWord();
                if (word == NONE) {
                    return false;
                }
                row[length] = word;
                length++;
            }
            if (length == 0 || text.at(start) != ';') {
                return false;
            }
            if (state.terms.size() >= Terms.LIMIT || state.terms.hasLike(state.words, row, length)) {
                return false;
            }
            state.terms.add(row, length);
            return pass(';');
        }

        private boolean readForm() {
            step();
            int word = readWord();
            if (word == NONE || !pass('=')) {
                return false;
            }
            int other = readWord();
            if (other == NONE || text.at(start) != ';') {
                return false;
            }
            int base = state.words.baseOf(other);
            if (!state.mayHaveBase(word, base)) {
                return false;
            }
            state.words.putBase(word, base);
            return pass(';');
        }

        /** Returns the word that the token is and goes on, or NONE if it can't be a word. */
        private int readWord() {
            if (!isRun() || end - start > Words.LONGEST) {
                return NONE;
            }
            long spelling = 0;
            for (int i = start; i < end; i++) {
                spelling = Words.spell(spelling, i - start, text.at(i));
            }
            int word = state.words.find(spelling);
            if (word == NONE) {
                word = state.words.add(spelling);
            }
            if (word != NONE) {
                step();
            }
            return word;
        }

        private boolean pass(int sign) {
            if (text.at(start) != sign) {
                return false;
            }
            step();
            return true;
        }

        private boolean isRun() {
            return isLetter(text.at(start));
        }

        private boolean isWord(String word) {
            if (end - start != word.length()) {
                return false;
            }
            for (int i = 0; i < word.length(); i++) {
                if (text.at(start + i) != word.charAt(i)) {
                    return false;
                }
            }
            return true;
        }

        /** Goes on to the next token; behind the last one it is empty, at the length of the text. */
        private void step() {
            start = end;
            while (start < text.length() && text.at(start) == ' ') {
                start++;
            }
            end = start;
            while (end < text.length() && isLetter(text.at(end))) {
                end++;
            }
            if (end == start && end < text.length()) {
                end++;
            }
        }

        private static boolean isLetter(int character) {
            return character >= 'a' && character <= 'z';
        }
    }

    /** What is read and marked in the chapters of a state. */
    private static final class Reading {
        private static final int MARKS = Terms.ROOM * Chapters.COUNT;

        private final int[][] terms = new int[Chapters.COUNT][Chapters.ROOM];
        private final int[][] steps = new int[Chapters.COUNT][Chapters.ROOM];
        private final int[][] firsts = new int[Terms.ROOM][Chapters.COUNT];
        private final int[] times = new int[Terms.ROOM];
        private final int[] markChapters = new int[MARKS];
        private final int[] markPlaces = new int[MARKS];
        private final int[] markTerms = new int[MARKS];
        private int markCount = 0;
        private int readingCount = 0;

        void read(State state) {
            forget();
            for (int chapter = 0; chapter < Chapters.COUNT; chapter++) {
                readChapter(state, chapter);
            }
        }

        private void forget() {
            for (int term = 0; term < Terms.ROOM; term++) {
                times[term] = 0;
                for (int chapter = 0; chapter < Chapters.COUNT; chapter++) {
                    firsts[term][chapter] = NONE;
                }
            }
            markCount = 0;
            readingCount = 0;
        }

        private void readChapter(State state, int chapter) {
            int term = NONE;
            int from = 0;
            int behind = 0;
            for (int place = 0; place < state.chapters.lengthOf(chapter); place++) {
                if (place >= behind) {
                    term = state.longestAt(chapter, place);
                    from = place;
                    behind = place + state.terms.lengthOf(term);
                    note(state, term, chapter, place);
                }
                terms[chapter][place] = term;
                steps[chapter][place] = term == NONE ? NONE : place - from;
            }
        }

        /** Takes up a reading, and its mark if it is the first one of its term in the chapter. */
        private void note(State state, int term, int chapter, int place) {
            if (!state.terms.has(term)) {
                return;
            }
            times[term]++;
            readingCount++;
            if (firsts[term][chapter] != NONE) {
                return;
            }
            firsts[term][chapter] = place;
            if (!state.terms.isQuiet(term) && markCount < MARKS) {
                markChapters[markCount] = chapter;
                markPlaces[markCount] = place;
                markTerms[markCount] = term;
                markCount++;
            }
        }

        int markCount() {
            return markCount;
        }

        int readingCount() {
            return readingCount;
        }

        int termOver(int chapter, int place) {
            return isInside(chapter, place) ? terms[chapter][place] : NONE;
        }

        int stepOver(int chapter, int place) {
            return isInside(chapter, place) ? steps[chapter][place] : NONE;
        }

        private static boolean isInside(int chapter, int place) {
            return chapter >= 0 && chapter < Chapters.COUNT && place >= 0 && place < Chapters.ROOM;
        }

        boolean hasMark(int chapter, int place) {
            for (int mark = 0; mark < markCount; mark++) {
                if (markChapters[mark] == chapter && markPlaces[mark] == place) {
                    return true;
                }
            }
            return false;
        }

        int timesRead(int term) {
            return term >= 0 && term < Terms.ROOM ? times[term] : 0;
        }

        int firstPlace(int term, int chapter) {
            if (term < 0 || term >= Terms.ROOM || chapter < 0 || chapter >= Chapters.COUNT) {
                return NONE;
            }
            return firsts[term][chapter];
        }

        int marksOf(int term) {
            int count = 0;
            for (int mark = 0; mark < markCount; mark++) {
                if (markTerms[mark] == term) {
                    count++;
                }
            }
            return count;
        }

        int markPart(int mark, int what) {
            if (mark < 0 || mark >= markCount) {
                return NONE;
            }
            switch (what) {
                case 0: return markChapters[mark];
                case 1: return markPlaces[mark];
                case 2: return markTerms[mark];
                default: return NONE;
            }
        }
    }
}
