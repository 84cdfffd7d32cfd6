import java.lang.reflect.Method;
import java.lang.reflect.Modifier;
import java.util.Arrays;

/** The sentences under "Terms" of lines and forms, of pages and of the room beside. */
final class EdgesOfSizes {
    private static final int[] SIZES = {0, 1, 3, 4, 8};
    private static final String[] CHANGES = {"write", "fill", "add", "copy", "readLines"};

    private final Edges edges;

    EdgesOfSizes(Edges edges) {
        this.edges = edges;
    }

    void run() {
        of("All values are integers.", this::integers);
        of("Everything is numbered from 0.", this::numberedFromZero);
        of("All divisions round down.", this::divisions);
        of("A page has 8 lines, 0 to 7;", this::eightLines);
        of("a line has 8 words, 0 to 7;", this::eightWords);
        of("a word has a value from 0 to 65535.", this::valuesOfWords);
        of("The form of a line is the first of these that applies,", this::firstForm);
        of("and each form has a size in units:", this::sizesOfForms);
        of("form 0 \"zero\", size 0: all words are 0.", this::zero);
        of("form 1 \"same\", size 1: all words are equal.", this::same);
        of("form 2 \"near\", size 3: the greatest word minus the least word is at most 15.", this::near);
        of("form 3 \"small\", size 4: all words are at most 255.", this::small);
        of("form 4 \"raw\", size 8: all other lines.", this::raw);
        of("There are at most 10 pages, with numbers from 0 to 9;", this::tenPages);
        of("a new page gets the lowest free number.", this::lowestFreeNumber);
        of("A page has a slot size, which is 0, 1, 3, 4 or 8.", this::slotSizes);
        of("A line whose size is at most the slot size is stored in its slot;", this::storedInSlot);
        of("a line that is larger is stored beside.", this::storedBeside);
        of("The size of a page is 1 + 8 * its slot size + 8 * the number of its lines that are stored beside.", this::sizesOfPages);
        of("A new page has only lines of the form 0, and the slot size 0.", this::newPages);
        of("There is a setting, the room, 0 to 8, initially 3:", this::roomSetting);
        of("the number of lines that may be stored beside in each page.", this::roomOfEachPage);
        of("The best slot size of a page is the one with which the size of the page would be the least,", this::leastSize);
        of("of those with which at most so many lines are beside as the room tells;", this::bestSlotWithinRoom);
        of("of several the least one.", this::leastOfSeveral);
        of("(With the slot size 8 no line is beside.)", this::noneBesideSlotEight);
        of("To lay a page anew is to give it its best slot size.", this::layingAnew);
        of("When a line becomes another one, the page keeps its slot size, if at most so many lines are beside then as the room tells;",
                this::slotIsKept);
        of("otherwise it is laid anew.", this::slotIsNotKept);
    }

    private void of(String words, Runnable test) {
        edges.of(Edges.TERMS, words, test);
    }

    // ---- lines and forms

    private void integers() {
        for (Method method : SqueezedLines.class.getDeclaredMethods()) {
            if (Modifier.isPublic(method.getModifiers())) {
                Class<?> wanted = method.getName().equals("digest") ? long.class : int.class;
                edges.due(method.getName() + " returns " + wanted, method.getReturnType() == wanted ? 1 : 0, 1);
                for (Class<?> type : method.getParameterTypes()) {
                    edges.due(method.getName() + " takes int", type == int.class ? 1 : 0, 1);
                }
            }
        }
    }

    private void numberedFromZero() {
        SqueezedLines x = new SqueezedLines();
        edges.due("the first page", x.newPage(), 0);
        edges.due("write(0, 0, 0, 5)", x.write(0, 0, 0, 5), 2);
        edges.due("peek(0, 0, 0)", x.peek(0, 0, 0), 5);
        edges.due("page(0, 2): line 0 is the lowest bit", x.page(0, 2), 1);
        edges.due("peek(-1, 0, 0)", x.peek(-1, 0, 0), Edges.NO_SUCH);
        edges.due("peek(0, -1, 0)", x.peek(0, -1, 0), Edges.NO_SUCH);
        edges.due("peek(0, 0, -1)", x.peek(0, 0, -1), Edges.NO_SUCH);
        edges.due("hint(0, 0): the first hint", x.hint(0, 0), Edges.NONE);
        edges.due("hint(-1, 0)", x.hint(-1, 0), Edges.NO_SUCH);
    }

    private void divisions() {
        int[] bounds = {64, 65, 129, 130, 194, 195, 999};
        int[] wanted = {0, 1, 1, 2, 2, 3, 15};
        SqueezedLines x = new SqueezedLines();
        for (int i = 0; i < bounds.length; i++) {
            x.setBound(bounds[i]);
            edges.due("rawPagesLeft() of " + bounds[i], x.rawPagesLeft(), wanted[i]);
        }
    }

    private void eightLines() {
        SqueezedLines x = Make.withPages(1);
        edges.due("lines(0) of one page", x.lines(0), 8);
        edges.due("equalLines(0, 7)", x.equalLines(0, 7), 8);
        edges.due("fill(0, 7, 5)", x.fill(0, 7, 5), 1);
        edges.due("fill(0, 8, 5)", x.fill(0, 8, 5), Edges.NO_SUCH);
        edges.due("fill(0, -1, 5)", x.fill(0, -1, 5), Edges.NO_SUCH);
        edges.due("page(0, 2): line 7 is the highest bit", x.page(0, 2), 128);
        edges.due("lines(1)", x.lines(1), 1);
        linesOfTheirOwn();
    }

    /** All lines of all pages have words of their own. */
    private void linesOfTheirOwn() {
        SqueezedLines x = Make.withPages(10);
        for (int i = 0; i < 80; i++) {
            x.fill(i / 8, i % 8, 100 + i);
        }
        for (int i = 0; i < 80; i++) {
            edges.due("peek(" + i / 8 + ", " + i % 8 + ", 0)", x.peek(i / 8, i % 8, 0), 100 + i);
            edges.due("peek(" + i / 8 + ", " + i % 8 + ", 7)", x.peek(i / 8, i % 8, 7), 100 + i);
            edges.due("line(" + i / 8 + ", " + i % 8 + ", 3)", x.line(i / 8, i % 8, 3), 100 + i);
        }
        edges.due("lines(1) of ten pages", x.lines(1), 80);
    }

    private void eightWords() {
        SqueezedLines x = Make.withPages(1);
        for (int word = 0; word < 8; word++) {
            edges.due("write(0, 3, " + word + ", 9): the last one makes it \"same\"", x.write(0, 3, word, 9), word < 7 ? 2 : 1);
        }
        edges.due("write(0, 3, 8, 9)", x.write(0, 3, 8, 9), Edges.NO_SUCH);
        edges.due("write(0, 3, -1, 9)", x.write(0, 3, -1, 9), Edges.NO_SUCH);
        edges.due("lines(0): the lines beside it are untouched", x.lines(0), 7);
        wordsOfTheirOwn();
    }

    /** All words of all lines of a page have values of their own. */
    private void wordsOfTheirOwn() {
        SqueezedLines x = Make.withPages(10);
        for (int i = 0; i < 64; i++) {
            x.write(9, i / 8, i % 8, 1000 + i);
        }
        for (int i = 0; i < 64; i++) {
            edges.due("peek(9, " + i / 8 + ", " + i % 8 + ")", x.peek(9, i / 8, i % 8), 1000 + i);
        }
    }

    private void valuesOfWords() {
        SqueezedLines x = Make.withPages(1);
        edges.due("write(0, 0, 0, 65535)", x.write(0, 0, 0, 65535), 4);
        edges.due("peek(0, 0, 0)", x.peek(0, 0, 0), 65535);
        edges.due("write(0, 0, 0, 65536)", x.write(0, 0, 0, 65536), Edges.BAD_VALUE);
        edges.due("write(0, 0, 0, 0)", x.write(0, 0, 0, 0), 0);
        edges.due("write(0, 0, 0, -1)", x.write(0, 0, 0, -1), Edges.BAD_VALUE);
        edges.due("add(0, 0, -1)", x.add(0, 0, -1), 1);
        edges.due("peek(0, 0, 0)", x.peek(0, 0, 0), 65535);
        edges.due("add(0, 0, 1)", x.add(0, 0, 1), 0);
        edges.due("peek(0, 0, 0)", x.peek(0, 0, 0), 0);
    }

    /** Eight words of one value, but for one of them. */
    private static int[] words(int value, int place, int other) {
        int[] words = new int[8];
        Arrays.fill(words, value);
        words[place] = other;
        return words;
    }

    private static int[] words(int value) {
        return words(value, 0, value);
    }

    private void formIs(int form, int[] words) {
        SqueezedLines x = Make.withPages(1);
        for (int word = 0; word < 8; word++) {
            x.write(0, 3, word, words[word]);
        }
        edges.due("the form of " + Arrays.toString(words), x.line(0, 3, 0), form);
        edges.due("the size of " + Arrays.toString(words), x.line(0, 3, 1), SIZES[form]);
        edges.due("lines(" + form + ") with " + Arrays.toString(words), x.lines(form), form == 0 ? 8 : 1);
    }

    private void formAtEachPlace(int form, int value, int other) {
        for (int place = 0; place < 8; place++) {
            formIs(form, words(value, place, other));
        }
    }

    /** Each of these lines has, beside its own form, all the later ones too. */
    private void firstForm() {
        formIs(0, words(0));
        formIs(1, words(1));
        formIs(1, words(255));
        formAtEachPlace(2, 0, 15);
        formAtEachPlace(2, 255, 240);
        formAtEachPlace(3, 0, 16);
        formAtEachPlace(3, 255, 239);
    }

    private void sizesOfForms() {
        for (int form = 0; form < 5; form++) {
            SqueezedLines x = Make.withPages(1);
            Make.line(x, 0, 0, form);
            edges.due("the size of the form " + form, x.line(0, 0, 1), SIZES[form]);
        }
    }

    private void zero() {
        formIs(0, words(0));
        formAtEachPlace(2, 0, 1);
        formAtEachPlace(4, 0, 65535);
    }

    private void same() {
        int[] values = {1, 2, 15, 16, 255, 256, 65534, 65535};
        for (int value : values) {
            formIs(1, words(value));
            formAtEachPlace(2, value, value - 1);
        }
    }

    private void near() {
        int[] leasts = {0, 1, 240, 241, 255, 256, 65519, 65520};
        for (int least : leasts) {
            formAtEachPlace(2, least, least + 15);
            formAtEachPlace(2, least + 15, least);
            formIs(2, new int[] {least + 1, least + 2, least, least + 4, least + 15, least + 6, least + 7, least + 8});
        }
        int[] leastsOfWider = {240, 255, 256, 65518, 65519};
        for (int least : leastsOfWider) {
            formAtEachPlace(4, least, least + 16);
            formAtEachPlace(4, least + 16, least);
        }
        formAtEachPlace(3, 0, 16);
        formAtEachPlace(3, 16, 0);
    }

    private void small() {
        formAtEachPlace(3, 0, 255);
        formAtEachPlace(3, 255, 0);
        formAtEachPlace(3, 239, 255);
        formAtEachPlace(3, 255, 239);
        formAtEachPlace(4, 0, 256);
        formAtEachPlace(4, 256, 0);
        formAtEachPlace(4, 240, 256);
        formAtEachPlace(4, 256, 240);
    }

    private void raw() {
        formAtEachPlace(4, 0, 65535);
        formAtEachPlace(4, 65535, 0);
        formAtEachPlace(4, 0, 256);
        formAtEachPlace(4, 65535, 65519);
        formIs(4, new int[] {0, 1, 2, 3, 4, 5, 6, 256});
    }

    // ---- pages

    private void tenPages() {
        SqueezedLines x = new SqueezedLines();
        for (int page = 0; page < 10; page++) {
            edges.due("page(" + page + ", 0) before it is made", x.page(page, 0), Edges.NO_SUCH);
            edges.due("newPage()", x.newPage(), page);
            edges.due("page(" + page + ", 0)", x.page(page, 0), 0);
        }
        edges.due("newPage() with ten pages", x.newPage(), Edges.LIMIT);
        edges.due("page(10, 0)", x.page(10, 0), Edges.NO_SUCH);
        edges.due("page(-1, 0)", x.page(-1, 0), Edges.NO_SUCH);
        edges.due("count(0)", x.count(0), 10);
    }

    private void lowestFreeNumber() {
        for (int freed = 0; freed < 10; freed++) {
            SqueezedLines x = Make.withPages(10);
            x.free(freed);
            edges.due("newPage() without page " + freed, x.newPage(), freed);
        }
        SqueezedLines x = Make.withPages(10);
        x.free(9);
        x.free(0);
        x.free(4);
        edges.due("newPage() without the pages 0, 4 and 9", x.newPage(), 0);
        edges.due("newPage() without the pages 4 and 9", x.newPage(), 4);
        edges.due("newPage() without page 9", x.newPage(), 9);
        edges.due("newPage()", x.newPage(), Edges.LIMIT);
    }

    private void slotSizes() {
        for (int slot : SIZES) {
            SqueezedLines x = Make.withSlot(slot);
            edges.due("page(0, 0)", x.page(0, 0), slot);
            edges.due("page(0, 1)", x.page(0, 1), 1 + 8 * slot);
        }
    }

    private void storage(boolean isBeside) {
        for (int slot : SIZES) {
            for (int form = 0; form < 5; form++) {
                if (SIZES[form] > slot == isBeside) {
                    SqueezedLines x = Make.withSlot(slot);
                    Make.line(x, 0, 5, form);
                    String which = " with slot " + slot + " and form " + form;
                    edges.due("page(0, 0)" + which, x.page(0, 0), slot);
                    edges.due("line(0, 5, 2)" + which, x.line(0, 5, 2), isBeside ? 1 : 0);
                    edges.due("page(0, 2)" + which, x.page(0, 2), isBeside ? 32 : 0);
                    edges.due("count(4)" + which, x.count(4), isBeside ? 1 : 0);
                }
            }
        }
    }

    private void storedInSlot() {
        storage(false);
    }

    private void storedBeside() {
        storage(true);
    }

    /** From 1 (slot 0, none beside) to 97 (slot 4, all beside). */
    private void sizesOfPages() {
        for (int slot : new int[] {0, 1, 3, 4}) {
            for (int beside = 0; beside <= 8; beside++) {
                SqueezedLines x = Make.withSlot(slot);
                Make.rawLines(x, 0, 0, beside - 1);
                edges.due("page(0, 1) with slot " + slot + " and " + beside + " lines beside", x.page(0, 1), 1 + 8 * slot + 8 * beside);
                edges.due("count(4)", x.count(4), beside);
            }
        }
        SqueezedLines x = Make.withSlot(8);
        edges.due("page(0, 1) with slot 8 and zeros", x.page(0, 1), 65);
        Make.rawLines(x, 0, 0, 7);
        edges.due("page(0, 1) with slot 8 and raw lines", x.page(0, 1), 65);
    }

    /** Also if its number was the one of a page with other lines, another slot size and other words. */
    private void newPages() {
        SqueezedLines x = new SqueezedLines();
        x.newPage();
        isNew(x, 0);
        x.newPage();
        isNew(x, 1);
        Make.rawLines(x, 0, 0, 7);
        Make.rawLines(x, 1, 0, 2);
        edges.due("page(0, 0) before free(0)", x.page(0, 0), 8);
        x.free(0);
        x.free(1);
        x.newPage();
        x.newPage();
        isNew(x, 0);
        isNew(x, 1);
        edges.due("count(1)", x.count(1), 2);
        edges.due("equalLines(0, 0)", x.equalLines(0, 0), 16);
    }

    private void isNew(SqueezedLines x, int page) {
        edges.due("page(" + page + ", 0)", x.page(page, 0), 0);
        edges.due("page(" + page + ", 1)", x.page(page, 1), 1);
        edges.due("page(" + page + ", 2)", x.page(page, 2), 0);
        edges.due("page(" + page + ", 3)", x.page(page, 3), 0);
        for (int line = 0; line < 8; line++) {
            edges.due("line(" + page + ", " + line + ", 0)", x.line(page, line, 0), 0);
            edges.due("line(" + page + ", " + line + ", 4)", x.line(page, line, 4), 0);
            for (int word = 0; word < 8; word++) {
                edges.due("peek(" + page + ", " + line + ", " + word + ")", x.peek(page, line, word), 0);
            }
        }
    }

    // ---- room beside

    private void roomSetting() {
        SqueezedLines x = new SqueezedLines();
        edges.due("count(3)", x.count(3), 3);
        edges.due("setRoom(9)", x.setRoom(9), Edges.BAD_VALUE);
        edges.due("setRoom(-1)", x.setRoom(-1), Edges.BAD_VALUE);
        edges.due("setRoom(0)", x.setRoom(0), 3);
        edges.due("setRoom(8)", x.setRoom(8), 0);
        edges.due("count(3)", x.count(3), 8);
    }

    private void roomOfEachPage() {
        for (int room = 0; room <= 8; room++) {
            SqueezedLines x = Make.withPages(2);
            x.setRoom(room);
            Make.rawLines(x, 0, 0, room - 1);
            Make.rawLines(x, 1, 8 - room, 7);
            edges.due("page(0, 2) with room " + room, x.page(0, 2), (1 << room) - 1);
            edges.due("page(1, 2) with room " + room, x.page(1, 2), 255 >> 8 - room << 8 - room);
            edges.due("count(4) with room " + room, x.count(4), 2 * room);
            edges.due("count(8) with room " + room, x.count(8), 0);
            if (room < 8) {
                x.write(0, room, 0, 1000);
                edges.due("page(0, 2) with one line more than the room " + room, x.page(0, 2), 0);
                edges.due("page(0, 0) with one line more than the room " + room, x.page(0, 0), 8);
                edges.due("count(4): the lines of the other page", x.count(4), room);
                edges.due("count(8) with one line more", x.count(8), 1);
            }
        }
    }

    /** A page whose numbers of lines of the forms 1 to 4 are given, in a memory with this room. */
    private static SqueezedLines withForms(int room, int... numbers) {
        SqueezedLines x = Make.withPages(1);
        x.setRoom(8);
        int line = 0;
        for (int form = 1; form <= numbers.length; form++) {
            for (int i = 0; i < numbers[form - 1]; i++) {
                Make.line(x, 0, line, form);
                line++;
            }
        }
        x.setRoom(room);
        return x;
    }

    private void best(int slot, int size, int room, int... numbers) {
        SqueezedLines x = withForms(room, numbers);
        String which = " with room " + room + " and the forms 1 to 4 " + Arrays.toString(numbers);
        edges.due("page(0, 3)" + which, x.page(0, 3), slot);
        edges.due("page(0, 4)" + which, x.page(0, 4), size);
    }

    private void leastSize() {
        best(0, 1, 8, 0, 0, 0, 0);
        best(1, 9, 8, 2, 0, 0, 0);
        best(1, 9, 8, 8, 0, 0, 0);
        best(3, 25, 8, 0, 4, 0, 0);
        best(3, 25, 8, 0, 8, 0, 0);
        best(4, 33, 8, 0, 0, 5, 0);
        best(4, 33, 8, 0, 0, 8, 0);
        best(4, 41, 8, 0, 0, 7, 1);
        best(0, 57, 8, 0, 0, 0, 7);
        best(1, 25, 8, 6, 1, 1, 0);
        best(3, 33, 8, 1, 5, 1, 0);
    }

    /** At the last room with which a slot size may be, and one below. */
    private void bestSlotWithinRoom() {
        best(0, 41, 5, 0, 0, 0, 5);
        best(8, 65, 4, 0, 0, 0, 5);
        best(0, 9, 1, 0, 0, 0, 1);
        best(8, 65, 0, 0, 0, 0, 1);
        best(0, 65, 8, 0, 0, 0, 8);
        best(8, 65, 7, 0, 0, 0, 8);
        best(4, 57, 3, 0, 0, 5, 3);
        best(8, 65, 2, 0, 0, 5, 3);
        best(3, 49, 3, 0, 5, 0, 3);
        best(8, 65, 2, 0, 5, 0, 3);
        best(1, 33, 3, 5, 0, 0, 3);
        best(8, 65, 2, 5, 0, 0, 3);
        best(1, 17, 1, 7, 0, 0, 1);
        best(8, 65, 0, 7, 0, 0, 1);
        best(1, 17, 1, 7, 1, 0, 0);
        best(3, 25, 0, 7, 1, 0, 0);
        best(3, 33, 1, 0, 7, 1, 0);
        best(4, 33, 0, 0, 7, 1, 0);
        best(0, 17, 2, 1, 0, 1, 0);
        best(1, 17, 1, 1, 0, 1, 0);
        best(4, 33, 0, 1, 0, 1, 0);
    }

    private void leastOfSeveral() {
        best(0, 9, 3, 1, 0, 0, 0);
        best(0, 25, 3, 0, 3, 0, 0);
        best(0, 33, 4, 0, 0, 4, 0);
        best(0, 33, 4, 1, 2, 1, 0);
        best(0, 65, 8, 0, 0, 0, 8);
        best(1, 25, 3, 2, 2, 0, 0);
        best(1, 33, 3, 1, 0, 3, 0);
        best(3, 33, 3, 0, 3, 1, 0);
        best(3, 65, 5, 0, 3, 0, 5);
        best(4, 65, 4, 0, 0, 4, 4);
        best(1, 65, 7, 1, 0, 0, 7);
    }

    private void noneBesideSlotEight() {
        SqueezedLines x = Make.withPages(1);
        x.setRoom(0);
        Make.rawLines(x, 0, 0, 7);
        edges.due("page(0, 0)", x.page(0, 0), 8);
        edges.due("page(0, 2)", x.page(0, 2), 0);
        edges.due("count(4)", x.count(4), 0);
        for (int line = 0; line < 8; line++) {
            edges.due("line(0, " + line + ", 0)", x.line(0, line, 0), 4);
            edges.due("line(0, " + line + ", 2)", x.line(0, line, 2), 0);
        }
        SqueezedLines y = Make.withSlot(8);
        y.setRoom(0);
        edges.due("page(0, 0) with slot 8 and room 0", y.page(0, 0), 8);
        edges.due("count(8)", y.count(8), 1);
    }

    private void layingAnew() {
        for (int slot : SIZES) {
            for (int form = 0; form < 5; form++) {
                SqueezedLines x = Make.withSlot(slot);
                Make.line(x, 0, 0, form);
                Make.line(x, 0, 7, form);
                int best = x.page(0, 3);
                int size = x.page(0, 4);
                edges.due("layAnew(0)", x.layAnew(0), slot);
                edges.due("page(0, 0)", x.page(0, 0), best);
                edges.due("page(0, 1)", x.page(0, 1), size);
                edges.due("page(0, 0) with two lines of the form " + form, x.page(0, 0), form == 1 ? 1 : 0);
            }
        }
    }

    // ---- lines that become other ones

    private static long change(SqueezedLines x, int change, int line) {
        switch (change) {
            case 0:
                return x.write(0, line, 0, 7);
            case 1:
                return x.fill(0, line, 7);
            case 2:
                return x.add(0, line, 7);
            case 3:
                return x.copy(0, 0, 0, line);
            default:
                Make.typeAll(x, "0:" + line + "=7*");
                return x.readLines();
        }
    }

    private void slotIsKept() {
        for (int change = 0; change < CHANGES.length; change++) {
            SqueezedLines x = Make.withPages(1);
            Make.sameLines(x, 0, 0, 1);
            change(x, change, 2);
            edges.due(CHANGES[change] + " that makes three lines beside: page(0, 0)", x.page(0, 0), 0);
            edges.due(CHANGES[change] + ": page(0, 1), though slot 1 would be less", x.page(0, 1), 25);
            edges.due(CHANGES[change] + ": count(8)", x.count(8), 0);
            SqueezedLines loose = Make.withLoosePage();
            long laidAnew = loose.count(8);
            change(loose, change, 2);
            edges.due(CHANGES[change] + " in a loose page: page(0, 0)", loose.page(0, 0), 8);
            edges.due(CHANGES[change] + " in a loose page: count(8)", loose.count(8), laidAnew);
        }
        SqueezedLines x = Make.withPages(1);
        Make.rawLines(x, 0, 0, 2);
        edges.due("fill(0, 0, 0) of three lines beside", x.fill(0, 0, 0), 0);
        edges.due("page(0, 0)", x.page(0, 0), 0);
        edges.due("fill(0, 7, 1): three again", x.fill(0, 7, 1), 1);
        edges.due("write(0, 7, 0, 999): beside as before", x.write(0, 7, 0, 999), 4);
        edges.due("page(0, 2)", x.page(0, 2), 128 + 4 + 2);
        edges.due("count(8)", x.count(8), 0);
    }

    private void slotIsNotKept() {
        for (int change = 0; change < CHANGES.length; change++) {
            SqueezedLines x = Make.withPages(1);
            Make.sameLines(x, 0, 0, 2);
            change(x, change, 3);
            edges.due(CHANGES[change] + " that makes four lines beside: page(0, 0)", x.page(0, 0), 1);
            edges.due(CHANGES[change] + ": page(0, 1)", x.page(0, 1), change == 0 ? 17 : 9);
            edges.due(CHANGES[change] + ": page(0, 2)", x.page(0, 2), change == 0 ? 8 : 0);
            edges.due(CHANGES[change] + ": count(8)", x.count(8), 1);
        }
    }
}
