import java.util.ArrayDeque;
import java.util.ArrayList;
import java.util.Arrays;
import java.util.List;
import java.util.TreeMap;
import java.util.regex.Matcher;
import java.util.regex.Pattern;

/** The document once more, written with the whole Java library and in another way, for runs of calls to be compared with. */
final class Reference {
    private static final int[] SLOT_SIZES = {0, 1, 3, 4, 8};
    private static final String VALUE = "(?:0|[1-9][0-9]{0,3}|[1-5][0-9]{4}|6[0-4][0-9]{3}|65[0-4][0-9]{2}|655[0-2][0-9]|6553[0-5])";
    private static final String ENTRY = "[0-9]:[0-7]=(?:" + VALUE + "\\*|" + VALUE + "(?:," + VALUE + "){7})";
    private static final Pattern LIST = Pattern.compile(ENTRY + "(?:;" + ENTRY + ")*");

    private static final class Page {
        int slot = 0;
        int[][] lines = new int[8][8];

        Page copy() {
            Page other = new Page();
            other.slot = slot;
            for (int i = 0; i < 8; i++) {
                other.lines[i] = lines[i].clone();
            }
            return other;
        }

        List<Integer> beside(int slotSize) {
            List<Integer> found = new ArrayList<>();
            for (int i = 0; i < 8; i++) {
                if (SLOT_SIZES[form(lines[i])] > slotSize) {
                    found.add(i);
                }
            }
            return found;
        }

        int size(int slotSize) {
            return 1 + 8 * slotSize + 8 * beside(slotSize).size();
        }

        int best(int room) {
            int best = -1;
            for (int slotSize : SLOT_SIZES) {
                if (beside(slotSize).size() <= room && (best < 0 || size(slotSize) < size(best))) {
                    best = slotSize;
                }
            }
            return best;
        }

        int set() {
            return beside(slot).stream().mapToInt(line -> 1 << line).sum();
        }
    }

    private static final class Memory {
        int room = 3;
        int bound = 300;
        int hits = 0;
        int misses = 0;
        int relaid = 0;
        TreeMap<Integer, Page> pages = new TreeMap<>();
        /** Per hint null, or its page and its set. */
        int[][] hints = new int[4][];

        Memory copy() {
            Memory other = new Memory();
            other.room = room;
            other.bound = bound;
            other.hits = hits;
            other.misses = misses;
            other.relaid = relaid;
            pages.forEach((number, page) -> other.pages.put(number, page.copy()));
            for (int i = 0; i < 4; i++) {
                other.hints[i] = hints[i] == null ? null : hints[i].clone();
            }
            return other;
        }

        int sum() {
            return pages.values().stream().mapToInt(page -> page.size(page.slot)).sum();
        }

        void settle(Page page) {
            if (page.beside(page.slot).size() > room) {
                page.slot = page.best(room);
                relaid++;
            }
        }
    }

    private Memory memory = new Memory();
    private ArrayDeque<Memory> saved = new ArrayDeque<>();
    private String text = "";

    static int form(int[] words) {
        int least = Arrays.stream(words).min().getAsInt();
        int greatest = Arrays.stream(words).max().getAsInt();
        boolean[] applies = {least == 0 && greatest == 0, least == greatest, greatest - least <= 15, greatest <= 255, true};
        int form = 0;
        while (!applies[form]) {
            form++;
        }
        return form;
    }

    /** Makes this the state, if it is not too large, and saves the one from before. */
    private boolean become(Memory next) {
        if (next.sum() > memory.sum() && next.sum() > memory.bound) {
            return false;
        }
        saved.addLast(memory);
        if (saved.size() > 6) {
            saved.removeFirst();
        }
        memory = next;
        return true;
    }

    private boolean noPage(int page) {
        return !memory.pages.containsKey(page);
    }

    private boolean noLine(int page, int line) {
        return noPage(page) || line < 0 || line > 7;
    }

    private static boolean outside(int value, int least, int greatest) {
        return value < least || value > greatest;
    }

    private Memory changed(int page, int line, int[] words) {
        Memory next = memory.copy();
        next.pages.get(page).lines[line] = words.clone();
        next.settle(next.pages.get(page));
        return next;
    }

    private int change(int page, int line, int[] words) {
        return become(changed(page, line, words)) ? form(words) : -4;
    }

    int setRoom(int room) {
        if (outside(room, 0, 8)) {
            return -2;
        }
        int previous = memory.room;
        Memory next = memory.copy();
        next.room = room;
        next.pages.values().forEach(next::settle);
        return become(next) ? previous : -4;
    }

    int setBound(int bound) {
        if (outside(bound, 20, 999)) {
            return -2;
        }
        int previous = memory.bound;
        Memory next = memory.copy();
        next.bound = bound;
        become(next);
        return previous;
    }

    int newPage() {
        for (int number = 0; number < 10; number++) {
            if (noPage(number)) {
                Memory next = memory.copy();
                next.pages.put(number, new Page());
                return become(next) ? number : -4;
            }
        }
        return -4;
    }

    int free(int page) {
        if (noPage(page)) {
            return -1;
        }
        int before = memory.sum();
        Memory next = memory.copy();
        next.pages.remove(page);
        for (int i = 0; i < 4; i++) {
            if (next.hints[i] != null && next.hints[i][0] == page) {
                next.hints[i] = null;
            }
        }
        become(next);
        return before - memory.sum();
    }

    int layAnew(int page) {
        if (noPage(page)) {
            return -1;
        }
        int previous = memory.pages.get(page).slot;
        Memory next = memory.copy();
        next.pages.get(page).slot = next.pages.get(page).best(next.room);
        become(next);
        return previous;
    }

    int layAllAnew() {
        int before = memory.sum();
        Memory next = memory.copy();
        for (Page page : next.pages.values()) {
            page.slot = page.best(next.room);
        }
        become(next);
        return before - memory.sum();
    }

    private int[] written(int page, int line, int word, int value) {
        int[] words = memory.pages.get(page).lines[line].clone();
        words[word] = value;
        return words;
    }

    int write(int page, int line, int word, int value) {
        if (noLine(page, line) || outside(word, 0, 7)) {
            return -1;
        }
        return outside(value, 0, 65535) ? -2 : change(page, line, written(page, line, word, value));
    }

    int fill(int page, int line, int value) {
        if (noLine(page, line)) {
            return -1;
        }
        int[] words = new int[8];
        Arrays.fill(words, value);
        return outside(value, 0, 65535) ? -2 : change(page, line, words);
    }

    int add(int page, int line, int number) {
        if (noLine(page, line)) {
            return -1;
        }
        int[] words = Arrays.stream(memory.pages.get(page).lines[line])
                .map(word -> (int) (((long) word + number + 65536) % 65536)).toArray();
        return outside(number, -65535, 65535) ? -2 : change(page, line, words);
    }

    int copy(int page, int line, int otherPage, int otherLine) {
        if (noLine(page, line) || noLine(otherPage, otherLine)) {
            return -1;
        }
        return change(otherPage, otherLine, memory.pages.get(page).lines[line]);
    }

    int look(int page, int line, int word) {
        if (noLine(page, line) || outside(word, 0, 7)) {
            return -1;
        }
        Memory next = memory.copy();
        int[] hint = next.hints[page % 4];
        int set = next.pages.get(page).set();
        boolean told = hint != null && hint[0] == page;
        if (told && ((hint[1] & 1 << line) != 0) == ((set & 1 << line) != 0)) {
            next.hits++;
        } else {
            next.misses++;
            next.hints[page % 4] = new int[] {page, set};
        }
        become(next);
        return peek(page, line, word);
    }

    int count(int what) {
        switch (what) {
            case 0: return memory.pages.size();
            case 1: return memory.sum();
            case 2: return memory.bound;
            case 3: return memory.room;
            case 4: return memory.pages.values().stream().mapToInt(page -> page.beside(page.slot).size()).sum();
            case 5: return memory.hits;
            case 6: return memory.misses;
            case 7: return memory.hits + memory.misses + memory.misses;
            case 8: return memory.relaid;
            default: return -2;
        }
    }

    int peek(int page, int line, int word) {
        return noLine(page, line) || outside(word, 0, 7) ? -1 : memory.pages.get(page).lines[line][word];
    }

    int page(int page, int what) {
        if (noPage(page)) {
            return -1;
        }
        Page p = memory.pages.get(page);
        int best = p.best(memory.room);
        return outside(what, 0, 4) ? -2 : new int[] {p.slot, p.size(p.slot), p.set(), best, p.size(best)}[what];
    }

    int line(int page, int line, int what) {
        if (noLine(page, line)) {
            return -1;
        }
        Page p = memory.pages.get(page);
        int[] words = p.lines[line];
        int[] sorted = words.clone();
        Arrays.sort(sorted);
        int size = SLOT_SIZES[form(words)];
        return outside(what, 0, 4) ? -2
                : new int[] {form(words), size, p.beside(p.slot).contains(line) ? 1 : 0, sorted[0], sorted[7]}[what];
    }

    private List<int[]> allLines() {
        List<int[]> all = new ArrayList<>();
        memory.pages.values().forEach(page -> all.addAll(Arrays.asList(page.lines)));
        return all;
    }

    int lines(int form) {
        return outside(form, 0, 4) ? -2 : (int) allLines().stream().filter(words -> form(words) == form).count();
    }

    int hint(int hint, int what) {
        if (outside(hint, 0, 3)) {
            return -1;
        }
        return outside(what, 0, 1) ? -2 : memory.hints[hint] == null ? -6 : memory.hints[hint][what];
    }

    int equalLines(int page, int line) {
        if (noLine(page, line)) {
            return -1;
        }
        int[] one = memory.pages.get(page).lines[line];
        return (int) allLines().stream().filter(words -> Arrays.equals(words, one)).count();
    }

    int ifWritten(int page, int line, int word, int value) {
        if (noLine(page, line) || outside(word, 0, 7)) {
            return -1;
        }
        return outside(value, 0, 65535) ? -2 : changed(page, line, written(page, line, word, value)).sum();
    }

    int ifRoom(int room) {
        return outside(room, 0, 8) ? -2 : memory.pages.values().stream().mapToInt(page -> page.size(page.best(room))).sum();
    }

    int loosest() {
        int found = -6;
        int most = 0;
        for (int number : memory.pages.keySet()) {
            Page page = memory.pages.get(number);
            int less = page.size(page.slot) - page.size(page.best(memory.room));
            if (less > most) {
                most = less;
                found = number;
            }
        }
        return found;
    }

    int rawPagesLeft() {
        int left = 0;
        while (memory.sum() + 65 * (left + 1) <= memory.bound) {
            left++;
        }
        return left;
    }

    int type(int code) {
        if (outside(code, 33, 126)) {
            return -2;
        }
        if (text.length() == 80) {
            return -4;
        }
        text += (char) code;
        return text.length();
    }

    int clearText() {
        int length = text.length();
        text = "";
        return length;
    }

    int syntaxError() {
        for (int length = 1; length <= text.length(); length++) {
            Matcher matcher = LIST.matcher(text.substring(0, length));
            if (!matcher.matches() && !matcher.hitEnd()) {
                return length - 1;
            }
        }
        return LIST.matcher(text).matches() ? -6 : text.length();
    }

    int readLines() {
        if (!LIST.matcher(text).matches()) {
            return -5;
        }
        Memory before = memory;
        ArrayDeque<Memory> savedBefore = saved.clone();
        int number = 0;
        for (String entry : text.split(";")) {
            String[] parts = entry.split("[:=]");
            String[] values = parts[2].split(",");
            int[] words = new int[8];
            for (int i = 0; i < 8; i++) {
                words[i] = Integer.parseInt(values.length == 8 ? values[i] : values[0].replace("*", ""));
            }
            if (noPage(Integer.parseInt(parts[0])) || change(Integer.parseInt(parts[0]), Integer.parseInt(parts[1]), words) < 0) {
                break;
            }
            number++;
        }
        Memory after = memory;
        memory = before;
        saved = savedBefore;
        saved.addLast(before);
        if (saved.size() > 6) {
            saved.removeFirst();
        }
        memory = after;
        text = "";
        return number;
    }

    int undo() {
        if (saved.isEmpty()) {
            return -3;
        }
        memory = saved.removeLast();
        return saved.size();
    }

    long digest() {
        List<Long> values = new ArrayList<>();
        for (int what = 0; what < 9; what++) {
            values.add((long) count(what));
        }
        for (int number : memory.pages.keySet()) {
            values.add((long) number);
            for (int what = 0; what < 5; what++) {
                values.add((long) page(number, what));
            }
            for (int[] words : memory.pages.get(number).lines) {
                values.add((long) form(words));
                Arrays.stream(words).forEach(word -> values.add((long) word));
            }
        }
        for (int form = 0; form < 5; form++) {
            values.add((long) lines(form));
        }
        for (int hint = 0; hint < 4; hint++) {
            values.add((long) hint(hint, 0));
            values.add((long) hint(hint, 1));
        }
        values.add((long) loosest());
        values.add((long) rawPagesLeft());
        long hash = 432;
        for (long value : values) {
            hash = 31 * hash + value;
        }
        return hash;
    }
}
