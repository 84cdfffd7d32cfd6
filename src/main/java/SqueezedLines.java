import java.util.Arrays;

/**
 * A memory whose lines are squeezed by their form. What each call does is told, as numbered promises, in the
 * document (../shared/DOC.md); the numbers stand at the methods.
 */
public final class SqueezedLines {
    /** There is no such page, line, word or hint. */
    public static final int NO_SUCH = -1;
    /** Another argument is out of its range. */
    public static final int BAD_VALUE = -2;
    /** The call is not possible in the present state. */
    public static final int NOT_POSSIBLE = -3;
    /** A limit would be exceeded. */
    public static final int LIMIT = -4;
    /** The text is not a line list. */
    public static final int BAD_TEXT = -5;
    /** There is no such result. */
    public static final int NONE = -6;

    private static final int PAGES = 10;
    private static final int LINES = 8;
    private static final int WORDS = 8;
    private static final int ALL_LINES = PAGES * LINES;
    private static final int ALL_WORDS = ALL_LINES * WORDS;
    private static final int HINTS = 4;
    private static final int GREATEST_ROOM = 8;
    private static final int FIRST_ROOM = 3;
    private static final int LEAST_BOUND = 20;
    private static final int GREATEST_BOUND = 999;
    private static final int FIRST_BOUND = 300;
    private static final int GREATEST_VALUE = 65535;
    private static final int SAVED_STATES = 6;
    private static final int TEXT_LENGTH = 80;
    private static final int FIRST_CODE = 33;
    private static final int LAST_CODE = 126;
    private static final int COUNTS = 9;
    private static final int PAGE_NUMBERS = 5;
    private static final int COST_OF_MISS = 2;
    private static final int RAW_PAGE_SIZE = 65;
    private static final long HASH_START = 432L;

    private static final int ZERO = 0;
    private static final int SAME = 1;
    private static final int NEAR = 2;
    private static final int SMALL = 3;
    private static final int RAW = 4;
    private static final int FORMS = 5;
    private static final int NEAR_SPAN = 15;
    private static final int GREATEST_SMALL = 255;

    /** The size of each form, rising; the slot sizes are the same numbers. */
    private static final int[] FORM_SIZES = {0, 1, 3, 4, 8};
    private static final int GREATEST_SLOT = 8;

    /** Stands for a page where there is none. */
    private static final int ABSENT = -1;

    private final State now;
    private final SavedStates saved;
    private final EntryReader reader;
    private final int[] newWords;
    private final int[] newForms;
    private final char[] text;
    private int textLength;

    /** Promise 1. */
    public SqueezedLines() {
        now = new State();
        saved = new SavedStates();
        reader = new EntryReader();
        newWords = new int[WORDS];
        newForms = new int[LINES];
        text = new char[TEXT_LENGTH];
        textLength = 0;
    }

    // ---- settings

    /** Promise 2. */
    public int setRoom(int room) {
        if (!isRoom(room)) {
            return BAD_VALUE;
        }
        if (exceedsBound(sumWithRoom(room))) {
            return LIMIT;
        }
        saved.keep(now);
        int previous = now.room;
        now.room = room;
        for (int page = 0; page < PAGES; page++) {
            if (now.hasPage(page)) {
                layAnewIfTooFull(page);
            }
        }
        return previous;
    }

    /** Promise 3. */
    public int setBound(int bound) {
        if (bound < LEAST_BOUND || bound > GREATEST_BOUND) {
            return BAD_VALUE;
        }
        saved.keep(now);
        int previous = now.bound;
        now.bound = bound;
        return previous;
    }

    // ---- pages

    /** Promise 4. */
    public int newPage() {
        int number = now.lowestFreeNumber();
        if (number == ABSENT || exceedsBound(sumOfSizes() + 1)) {
            return LIMIT;
        }
        saved.keep(now);
        now.makePage(number);
        return number;
    }

    /** Promise 5. */
    public int free(int page) {
        if (!now.hasPage(page)) {
            return NO_SUCH;
        }
        saved.keep(now);
        int size = sizeOfPage(page);
        now.removePage(page);
        return size;
    }

    /** Promise 6. */
    public int layAnew(int page) {
        if (!now.hasPage(page)) {
            return NO_SUCH;
        }
        saved.keep(now);
        int previous = now.slots[page];
        now.slots[page] = bestSlotOf(page, now.room);
        return previous;
    }

    /** Promise 7. */
    public int layAllAnew() {
        saved.keep(now);
        int before = sumOfSizes();
        for (int page = 0; page < PAGES; page++) {
            if (now.hasPage(page)) {
                now.slots[page] = bestSlotOf(page, now.room);
            }
        }
        return before - sumOfSizes();
    }

    // ---- words

    /** Promise 8. */
    public int write(int page, int line, int word, int value) {
        if (!now.hasLine(page, line) || !isWord(word)) {
            return NO_SUCH;
        }
        if (!isValue(value)) {
            return BAD_VALUE;
        }
        takeNewWords(page, line);
        newWords[word] = value;
        return changeLine(page, line);
    }

    /** Promise 9. */
    public int fill(int page, int line, int value) {
        if (!now.hasLine(page, line)) {
            return NO_SUCH;
        }
        if (!isValue(value)) {
            return BAD_VALUE;
        }
        Arrays.fill(newWords, value);
        return changeLine(page, line);
    }

    /** Promise 10. */
    public int add(int page, int line, int number) {
        if (!now.hasLine(page, line)) {
            return NO_SUCH;
        }
        if (number < -GREATEST_VALUE || number > GREATEST_VALUE) {
            return BAD_VALUE;
        }
        takeNewWords(page, line);
        for (int word = 0; word < WORDS; word++) {
            newWords[word] = Math.floorMod(newWords[word] + number, GREATEST_VALUE + 1);
        }
        return changeLine(page, line);
    }

    /** Promise 11. */
    public int copy(int page, int line, int otherPage, int otherLine) {
        if (!now.hasLine(page, line) || !now.hasLine(otherPage, otherLine)) {
            return NO_SUCH;
        }
        takeNewWords(page, line);
        return changeLine(otherPage, otherLine);
    }

    /** Promise 12. */
    public int look(int page, int line, int word) {
        if (!now.hasLine(page, line) || !isWord(word)) {
            return NO_SUCH;
        }
        saved.keep(now);
        useHint(page, line);
        return now.wordOf(page, line, word);
    }

    // ---- asking

    /** Promise 13. */
    public int count(int what) {
        switch (what) {
            case 0:
                return now.numberOfPages();
            case 1:
                return sumOfSizes();
            case 2:
                return now.bound;
            case 3:
                return now.room;
            case 4:
                return linesBeside();
            case 5:
                return now.hits;
            case 6:
                return now.misses;
            case 7:
                return now.hits + COST_OF_MISS * now.misses;
            case 8:
                return now.timesLaidAnew;
            default:
                return BAD_VALUE;
        }
    }

    /** Promise 14. */
    public int peek(int page, int line, int word) {
        if (!now.hasLine(page, line) || !isWord(word)) {
            return NO_SUCH;
        }
        return now.wordOf(page, line, word);
    }

    /** Promise 15. */
    public int page(int page, int what) {
        if (!now.hasPage(page)) {
            return NO_SUCH;
        }
        switch (what) {
            case 0:
                return now.slots[page];
            case 1:
                return sizeOfPage(page);
            case 2:
                return besideSetOf(page);
            case 3:
                return bestSlotOf(page, now.room);
            case 4:
                return bestSizeOf(page, now.room);
            default:
                return BAD_VALUE;
        }
    }

    /** Promise 16. */
    public int line(int page, int line, int what) {
        if (!now.hasLine(page, line)) {
            return NO_SUCH;
        }
        switch (what) {
            case 0:
                return now.formOf(page, line);
            case 1:
                return FORM_SIZES[now.formOf(page, line)];
            case 2:
                return isBeside(page, line) ? 1 : 0;
            case 3:
                return leastWord(now.words, placeOfWords(page, line));
            case 4:
                return greatestWord(now.words, placeOfWords(page, line));
            default:
                return BAD_VALUE;
        }
    }

    /** Promise 17. */
    public int lines(int form) {
        if (form < 0 || form >= FORMS) {
            return BAD_VALUE;
        }
        int number = 0;
        for (int page = 0; page < PAGES; page++) {
            for (int line = 0; line < LINES; line++) {
                if (now.hasLine(page, line) && now.formOf(page, line) == form) {
                    number++;
                }
            }
        }
        return number;
    }

    /** Promise 18. */
    public int hint(int hint, int what) {
        if (hint < 0 || hint >= HINTS) {
            return NO_SUCH;
        }
        if (what < 0 || what > 1) {
            return BAD_VALUE;
        }
        if (now.hintPages[hint] == ABSENT) {
            return NONE;
        }
        return what == 0 ? now.hintPages[hint] : now.hintSets[hint];
    }

    /** Promise 19. */
    public int equalLines(int page, int line) {
        if (!now.hasLine(page, line)) {
            return NO_SUCH;
        }
        int number = 0;
        for (int otherPage = 0; otherPage < PAGES; otherPage++) {
            for (int otherLine = 0; otherLine < LINES; otherLine++) {
                if (now.hasLine(otherPage, otherLine) && now.areEqual(page, line, otherPage, otherLine)) {
                    number++;
                }
            }
        }
        return number;
    }

    // ---- forecasts; they change nothing

    /** Promise 20. */
    public int ifWritten(int page, int line, int word, int value) {
        if (!now.hasLine(page, line) || !isWord(word)) {
            return NO_SUCH;
        }
        if (!isValue(value)) {
            return BAD_VALUE;
        }
        takeNewWords(page, line);
        newWords[word] = value;
        return sumWithLine(page, line, newWords);
    }

    /** Promise 21. */
    public int ifRoom(int room) {
        if (!isRoom(room)) {
            return BAD_VALUE;
        }
        int sum = 0;
        for (int page = 0; page < PAGES; page++) {
            if (now.hasPage(page)) {
                sum += bestSizeOf(page, room);
            }
        }
        return sum;
    }

    /** Promise 22. */
    public int loosest() {
        int found = NONE;
        int most = 0;
        for (int page = 0; page < PAGES; page++) {
            if (now.hasPage(page)) {
                int less = sizeOfPage(page) - bestSizeOf(page, now.room);
                if (less > most) {
                    found = page;
                    most = less;
                }
            }
        }
        return found;
    }

    /** Promise 23. */
    public int rawPagesLeft() {
        // The sum is above the bound after the bound was made lower: then there is no page left, not less than none.
        return Math.max(0, now.bound - sumOfSizes()) / RAW_PAGE_SIZE;
    }

    // ---- text

    /** Promise 24. */
    public int type(int code) {
        if (code < FIRST_CODE || code > LAST_CODE) {
            return BAD_VALUE;
        }
        if (textLength >= TEXT_LENGTH) {
            return LIMIT;
        }
        text[textLength] = (char) code;
        textLength++;
        return textLength;
    }

    /** Promise 25. */
    public int clearText() {
        int previous = textLength;
        textLength = 0;
        return previous;
    }

    /** Promise 26. */
    public int syntaxError() {
        reader.begin();
        for (int i = 0; i < textLength; i++) {
            if (!reader.takes(text[i])) {
                return i;
            }
        }
        return reader.isAtEndOfEntry() ? NONE : textLength;
    }

    /** Promise 27. */
    public int readLines() {
        if (syntaxError() != NONE) {
            return BAD_TEXT;
        }
        saved.keep(now);
        int number = carryOutEntries();
        textLength = 0;
        return number;
    }

    // ---- undo

    /** Promise 28. */
    public int undo() {
        if (saved.isEmpty()) {
            return NOT_POSSIBLE;
        }
        saved.giveBackLast(now);
        return saved.number();
    }

    /** Promise 29. */
    public long digest() {
        long hash = HASH_START;
        for (int what = 0; what < COUNTS; what++) {
            hash = mixed(hash, count(what));
        }
        for (int page = 0; page < PAGES; page++) {
            if (now.hasPage(page)) {
                hash = mixedWithPage(hash, page);
            }
        }
        for (int form = 0; form < FORMS; form++) {
            hash = mixed(hash, lines(form));
        }
        for (int hint = 0; hint < HINTS; hint++) {
            hash = mixed(mixed(hash, hint(hint, 0)), hint(hint, 1));
        }
        return mixed(mixed(hash, loosest()), rawPagesLeft());
    }

    // ---- ranges

    private static boolean isRoom(int room) {
        return room >= 0 && room <= GREATEST_ROOM;
    }

    private static boolean isWord(int word) {
        return word >= 0 && word < WORDS;
    }

    private static boolean isValue(int value) {
        return value >= 0 && value <= GREATEST_VALUE;
    }

    // ---- forms

    private static int leastWord(int[] words, int from) {
        int least = words[from];
        for (int i = from + 1; i < from + WORDS; i++) {
            least = Math.min(least, words[i]);
        }
        return least;
    }

    private static int greatestWord(int[] words, int from) {
        int greatest = words[from];
        for (int i = from + 1; i < from + WORDS; i++) {
            greatest = Math.max(greatest, words[i]);
        }
        return greatest;
    }

    private static int formOfWords(int[] words, int from) {
        int least = leastWord(words, from);
        int greatest = greatestWord(words, from);
        if (greatest == 0) {
            return ZERO;
        }
        if (greatest == least) {
            return SAME;
        }
        if (greatest - least <= NEAR_SPAN) {
            return NEAR;
        }
        return greatest <= GREATEST_SMALL ? SMALL : RAW;
    }

    private static int placeOfWords(int page, int line) {
        return (page * LINES + line) * WORDS;
    }

    private static int placeOfForms(int page) {
        return page * LINES;
    }

    // ---- what follows from the forms of the eight lines that stand in a row at a place

    private static int besideCount(int[] forms, int from, int slot) {
        int number = 0;
        for (int line = 0; line < LINES; line++) {
            if (FORM_SIZES[forms[from + line]] > slot) {
                number++;
            }
        }
        return number;
    }

    private static int pageSize(int slot, int besideCount) {
        return 1 + LINES * slot + WORDS * besideCount;
    }

    private static int bestSlot(int[] forms, int from, int room) {
        int best = GREATEST_SLOT;
        int bestSize = pageSize(GREATEST_SLOT, 0);
        // Downwards, so that of several equal ones the least stays.
        for (int i = FORMS - 1; i >= 0; i--) {
            int slot = FORM_SIZES[i];
            int beside = besideCount(forms, from, slot);
            if (beside <= room && pageSize(slot, beside) <= bestSize) {
                best = slot;
                bestSize = pageSize(slot, beside);
            }
        }
        return best;
    }

    // ---- pages and lines as they are; the page and the line are there, the callers have looked

    private boolean isBeside(int page, int line) {
        return FORM_SIZES[now.formOf(page, line)] > now.slots[page];
    }

    private int besideSetOf(int page) {
        int set = 0;
        for (int line = 0; line < LINES; line++) {
            if (isBeside(page, line)) {
                set |= 1 << line;
            }
        }
        return set;
    }

    private int besideCountOf(int page) {
        return besideCount(now.forms, placeOfForms(page), now.slots[page]);
    }

    private int sizeOfPage(int page) {
        return pageSize(now.slots[page], besideCountOf(page));
    }

    private int bestSlotOf(int page, int room) {
        return bestSlot(now.forms, placeOfForms(page), room);
    }

    private int bestSizeOf(int page, int room) {
        int slot = bestSlotOf(page, room);
        return pageSize(slot, besideCount(now.forms, placeOfForms(page), slot));
    }

    // ---- sums over all pages

    private int sumOfSizes() {
        int sum = 0;
        for (int page = 0; page < PAGES; page++) {
            if (now.hasPage(page)) {
                sum += sizeOfPage(page);
            }
        }
        return sum;
    }

    private int sumWithRoom(int room) {
        int sum = 0;
        for (int page = 0; page < PAGES; page++) {
            if (now.hasPage(page)) {
                sum += besideCountOf(page) > room ? bestSizeOf(page, room) : sizeOfPage(page);
            }
        }
        return sum;
    }

    private boolean exceedsBound(int sum) {
        return sum > now.bound && sum > sumOfSizes();
    }

    private int linesBeside() {
        int number = 0;
        for (int page = 0; page < PAGES; page++) {
            if (now.hasPage(page)) {
                number += besideCountOf(page);
            }
        }
        return number;
    }

    // ---- changes; the page and the line are there, the callers have looked

    private void layAnewIfTooFull(int page) {
        if (besideCountOf(page) > now.room) {
            now.slots[page] = bestSlotOf(page, now.room);
            now.timesLaidAnew++;
        }
    }

    private void takeNewWords(int page, int line) {
        System.arraycopy(now.words, placeOfWords(page, line), newWords, 0, WORDS);
    }

    private int sumWithLine(int page, int line, int[] words) {
        System.arraycopy(now.forms, placeOfForms(page), newForms, 0, LINES);
        newForms[line] = formOfWords(words, 0);
        int slot = now.slots[page];
        if (besideCount(newForms, 0, slot) > now.room) {
            slot = bestSlot(newForms, 0, now.room);
        }
        return sumOfSizes() - sizeOfPage(page) + pageSize(slot, besideCount(newForms, 0, slot));
    }

    private void putLine(int page, int line, int[] words) {
        now.putWords(page, line, words);
        layAnewIfTooFull(page);
    }

    /** Gives the line the new words, as one undoable call. */
    private int changeLine(int page, int line) {
        if (exceedsBound(sumWithLine(page, line, newWords))) {
            return LIMIT;
        }
        saved.keep(now);
        putLine(page, line, newWords);
        return now.formOf(page, line);
    }

    // ---- hints

    private void useHint(int page, int line) {
        int hint = page % HINTS;
        int set = besideSetOf(page);
        int wrongLines = now.hintSets[hint] ^ set;
        if (now.hintPages[hint] == page && (wrongLines >> line & 1) == 0) {
            now.hits++;
        } else {
            now.misses++;
            now.hintPages[hint] = page;
            now.hintSets[hint] = set;
        }
    }

    // ---- reading the text

    /** For a text that is a line list. */
    private int carryOutEntries() {
        int number = 0;
        reader.begin();
        for (int i = 0; i < textLength; i++) {
            reader.takes(text[i]);
            if (isLastOfEntry(i)) {
                if (!now.hasLine(reader.page, reader.line)
                        || exceedsBound(sumWithLine(reader.page, reader.line, reader.words))) {
                    return number;
                }
                putLine(reader.page, reader.line, reader.words);
                number++;
            }
        }
        return number;
    }

    private boolean isLastOfEntry(int index) {
        return index + 1 >= textLength || text[index + 1] == EntryReader.SEPARATOR;
    }

    // ---- the hash

    private static long mixed(long hash, long value) {
        return 31L * hash + value;
    }

    private long mixedWithPage(long hash, int page) {
        long mixed = mixed(hash, page);
        for (int what = 0; what < PAGE_NUMBERS; what++) {
            mixed = mixed(mixed, page(page, what));
        }
        for (int line = 0; line < LINES; line++) {
            mixed = mixed(mixed, now.formOf(page, line));
            for (int word = 0; word < WORDS; word++) {
                mixed = mixed(mixed, now.wordOf(page, line, word));
            }
        }
        return mixed;
    }

    /** Everything that undo brings back. */
    private static final class State {
        int room = FIRST_ROOM;
        int bound = FIRST_BOUND;
        int hits = 0;
        int misses = 0;
        int timesLaidAnew = 0;
        final int[] words = new int[ALL_WORDS];
        /** The form of each line: told by its words, kept so that it need not be found again for each sum. */
        final int[] forms = new int[ALL_LINES];
        /** The slot size of each page, ABSENT where there is no page. */
        final int[] slots = new int[PAGES];
        /** The page of each hint, ABSENT where the hint is empty. */
        final int[] hintPages = new int[HINTS];
        final int[] hintSets = new int[HINTS];

        State() {
            Arrays.fill(slots, ABSENT);
            Arrays.fill(hintPages, ABSENT);
        }

        void becomeLike(State other) {
            room = other.room;
            bound = other.bound;
            hits = other.hits;
            misses = other.misses;
            timesLaidAnew = other.timesLaidAnew;
            System.arraycopy(other.words, 0, words, 0, ALL_WORDS);
            System.arraycopy(other.forms, 0, forms, 0, ALL_LINES);
            System.arraycopy(other.slots, 0, slots, 0, PAGES);
            System.arraycopy(other.hintPages, 0, hintPages, 0, HINTS);
            System.arraycopy(other.hintSets, 0, hintSets, 0, HINTS);
        }

        boolean hasPage(int page) {
            return page >= 0 && page < PAGES && slots[page] != ABSENT;
        }

        boolean hasLine(int page, int line) {
            return hasPage(page) && line >= 0 && line < LINES;
        }

        int numberOfPages() {
            int number = 0;
            for (int page = 0; page < PAGES; page++) {
                if (slots[page] != ABSENT) {
                    number++;
                }
            }
            return number;
        }

        int lowestFreeNumber() {
            for (int page = 0; page < PAGES; page++) {
                if (slots[page] == ABSENT) {
                    return page;
                }
            }
            return ABSENT;
        }

        void makePage(int page) {
            // A freed page of this number may have left its words.
            Arrays.fill(words, placeOfWords(page, 0), placeOfWords(page + 1, 0), 0);
            Arrays.fill(forms, placeOfForms(page), placeOfForms(page + 1), ZERO);
            slots[page] = 0;
        }

        void removePage(int page) {
            slots[page] = ABSENT;
            if (hintPages[page % HINTS] == page) {
                hintPages[page % HINTS] = ABSENT;
            }
        }

        void putWords(int page, int line, int[] lineWords) {
            System.arraycopy(lineWords, 0, words, placeOfWords(page, line), WORDS);
            forms[placeOfForms(page) + line] = formOfWords(lineWords, 0);
        }

        int wordOf(int page, int line, int word) {
            return words[placeOfWords(page, line) + word];
        }

        int formOf(int page, int line) {
            return forms[placeOfForms(page) + line];
        }

        boolean areEqual(int page, int line, int otherPage, int otherLine) {
            for (int word = 0; word < WORDS; word++) {
                if (wordOf(page, line, word) != wordOf(otherPage, otherLine, word)) {
                    return false;
                }
            }
            return true;
        }
    }

    /** The last states, in rows that are made once and used again. */
    private static final class SavedStates {
        private final State[] states = new State[SAVED_STATES];
        private int number = 0;

        SavedStates() {
            for (int i = 0; i < SAVED_STATES; i++) {
                states[i] = new State();
            }
        }

        boolean isEmpty() {
            return number == 0;
        }

        int number() {
            return number;
        }

        void keep(State state) {
            if (number >= SAVED_STATES) {
                discardOldest();
            }
            states[number].becomeLike(state);
            number++;
        }

        void giveBackLast(State into) {
            if (number > 0) {
                number--;
                into.becomeLike(states[number]);
            }
        }

        private void discardOldest() {
            State oldest = states[0];
            for (int i = 1; i < SAVED_STATES; i++) {
                states[i - 1] = states[i];
            }
            states[SAVED_STATES - 1] = oldest;
            number = SAVED_STATES - 1;
        }
    }

    /** Takes a line list character by character, and holds the entry that it read last. */
    private static final class EntryReader {
        static final char SEPARATOR = ';';

        private static final int BEFORE_PAGE = 0;
        private static final int BEFORE_COLON = 1;
        private static final int BEFORE_LINE = 2;
        private static final int BEFORE_EQUALS = 3;
        private static final int BEFORE_VALUE = 4;
        private static final int IN_VALUE = 5;
        private static final int AFTER_STAR = 6;

        int page = 0;
        int line = 0;
        final int[] words = new int[WORDS];
        private int word = 0;
        private int place = BEFORE_PAGE;

        void begin() {
            place = BEFORE_PAGE;
        }

        boolean isAtEndOfEntry() {
            return place == AFTER_STAR || place == IN_VALUE && word == WORDS - 1;
        }

        /** Tells whether a line list can go on with this character; if it can't, only begin() may follow. */
        boolean takes(char sign) {
            switch (place) {
                case BEFORE_PAGE:
                    page = sign - '0';
                    return isDigit(sign) && goTo(BEFORE_COLON);
                case BEFORE_COLON:
                    return sign == ':' && goTo(BEFORE_LINE);
                case BEFORE_LINE:
                    line = sign - '0';
                    return line >= 0 && line < LINES && goTo(BEFORE_EQUALS);
                case BEFORE_EQUALS:
                    word = 0;
                    return sign == '=' && goTo(BEFORE_VALUE);
                case BEFORE_VALUE:
                    words[word] = sign - '0';
                    return isDigit(sign) && goTo(IN_VALUE);
                case IN_VALUE:
                    return isDigit(sign) ? takesDigit(sign - '0') : takesEndOfValue(sign);
                default:
                    return sign == SEPARATOR && goTo(BEFORE_PAGE);
            }
        }

        private static boolean isDigit(char sign) {
            return sign >= '0' && sign <= '9';
        }

        private boolean goTo(int nextPlace) {
            place = nextPlace;
            return true;
        }

        private boolean takesDigit(int digit) {
            int value = 10 * words[word] + digit;
            // A value that is 0 so far would have a leading zero.
            if (words[word] == 0 || value > GREATEST_VALUE) {
                return false;
            }
            words[word] = value;
            return true;
        }

        private boolean takesEndOfValue(char sign) {
            if (sign == '*' && word == 0) {
                Arrays.fill(words, words[0]);
                return goTo(AFTER_STAR);
            }
            if (sign == ',' && word < WORDS - 1) {
                word++;
                return goTo(BEFORE_VALUE);
            }
            return sign == SEPARATOR && word == WORDS - 1 && goTo(BEFORE_PAGE);
        }
    }
}
