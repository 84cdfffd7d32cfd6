/** The sentences under "Terms" of the bound, the hints, the text, undo and the error codes. */
final class EdgesOfMemory {
    private final Edges edges;

    EdgesOfMemory(Edges edges) {
        this.edges = edges;
    }

    void run() {
        of("There is a bound, 20 to 999, initially 300,", this::boundSetting);
        of("for the sum of the sizes of all pages.", this::boundOfAllPages);
        of("A call that would make this sum greater than it is,", this::greaterThanItIs);
        of("and greater than the bound, returns LIMIT.", this::greaterThanTheBound);
        of("(The sum can be greater than the bound after the bound is made lower.)", this::sumAboveBound);
        of("There are 4 hints; the hint h is for pages whose number modulo 4 is h.", this::hintOfEachPage);
        of("A hint is empty, or it has a page, and for each line of this page whether it is beside.", this::whatAHintHas);
        of("To look at a word of a page: if the hint for it has this page, and what it tells of the line is right, this is a hit and costs 1;",
                this::hit);
        of("otherwise it is a miss and costs 2,", this::miss);
        of("and the hint is made anew: it has this page and what is so for all its lines now.", this::hintMadeAnew);
        of("Only looks change hints;", this::onlyLooks);
        of("a hint with a page that is freed becomes empty.", this::freedHint);
        of("There is a text of at most 80 characters, which is empty initially.", this::textLength);
        of("A line list is a text of the form entry { \";\" entry },", this::listOfEntries);
        of("where an entry is the digit of a page, 0 to 9, \":\", the digit of a line, 0 to 7, \"=\", and", this::placesOfEntries);
        of("either a value and \"*\" (all words have this value),", this::oneValue);
        of("or 8 values with \",\" between them.", this::eightValues);
        of("A value is a number from 0 to 65535 without leading zeros.", this::valuesOfTexts);
        of("Methods marked \"Undoable\" save the state from before the call if they return no error code.", this::statesThatAreSaved);
        of("At most 6 states are saved;", this::sixStates);
        of("when a seventh one is saved, the oldest one is discarded.", this::seventhState);
        of("The state is everything except the text and the saved states.", this::whatTheStateIs);
        of("A call that returns NO_SUCH, BAD_VALUE, NOT_POSSIBLE, LIMIT or BAD_TEXT changes nothing.", this::refusalsChangeNothing);
        of("If several of them apply, the one that is named first in the @return line is returned.", this::orderOfErrorCodes);
        of("NONE is not an error code.", this::noneIsNoErrorCode);
        of("`NO_SUCH = -1`: There is no such page, line, word or hint.", this::noSuch);
        of("`BAD_VALUE = -2`: Another argument is out of its range.", this::badValue);
        of("`NOT_POSSIBLE = -3`: The call is not possible in the present state.", this::notPossible);
        of("`LIMIT = -4`: A limit would be exceeded.", this::limit);
        of("`BAD_TEXT = -5`: The text is not a line list.", this::badText);
        of("`NONE = -6`: There is no such result.", this::none);
    }

    private void of(String words, Runnable test) {
        edges.of(Edges.TERMS, words, test);
    }

    // ---- the bound

    private void boundSetting() {
        SqueezedLines x = new SqueezedLines();
        edges.due("count(2)", x.count(2), 300);
        edges.due("setBound(19)", x.setBound(19), Edges.BAD_VALUE);
        edges.due("setBound(1000)", x.setBound(1000), Edges.BAD_VALUE);
        edges.due("setBound(20)", x.setBound(20), 300);
        edges.due("setBound(999)", x.setBound(999), 20);
        edges.due("count(2)", x.count(2), 999);
    }

    /** Four full pages have 260, and a fifth one with two raw lines beside is 17: none of them is near 300 alone. */
    private void boundOfAllPages() {
        SqueezedLines x = Make.withPages(5);
        for (int page = 0; page < 4; page++) {
            Make.rawLines(x, page, 0, 7);
        }
        Make.rawLines(x, 4, 0, 2);
        edges.due("count(1)", x.count(1), 285);
        edges.due("write(4, 3, 0, 1000): 325", x.write(4, 3, 0, 1000), Edges.LIMIT);
        for (int page = 5; page < 10; page++) {
            edges.due("newPage()", x.newPage(), page);
        }
        edges.due("write(9, 0, 0, 1000): 298", x.write(9, 0, 0, 1000), 4);
        edges.due("write(9, 1, 0, 1000): 306", x.write(9, 1, 0, 1000), Edges.LIMIT);
        edges.due("count(1)", x.count(1), 298);
    }

    /** Two pages, of which page 0 has three lines beside: 26. */
    private static SqueezedLines below() {
        SqueezedLines x = Make.withPages(2);
        Make.rawLines(x, 0, 0, 2);
        return x;
    }

    private void greaterThanTheBound() {
        edges.limit("newPage()", EdgesOfMemory::below, 27, SqueezedLines::newPage);
        edges.limit("write(1, 0, 0, 5)", EdgesOfMemory::below, 34, x -> x.write(1, 0, 0, 5));
        edges.limit("write(0, 3, 0, 5) that lays page 0 anew", EdgesOfMemory::below, 50, x -> x.write(0, 3, 0, 5));
        edges.limit("fill(1, 0, 5)", EdgesOfMemory::below, 34, x -> x.fill(1, 0, 5));
        edges.limit("add(1, 0, 5)", EdgesOfMemory::below, 34, x -> x.add(1, 0, 5));
        edges.limit("copy(0, 0, 1, 7)", EdgesOfMemory::below, 34, x -> x.copy(0, 0, 1, 7));
        edges.limit("setRoom(2)", EdgesOfMemory::below, 66, x -> x.setRoom(2));
    }

    private void greaterThanItIs() {
        edges.aboveBound("setRoom(8)", Make::aboveBound, x -> x.setRoom(8), 50);
        edges.aboveBound("setRoom(3)", Make::aboveBound, x -> x.setRoom(3), 50);
        edges.aboveBound("setBound(21)", Make::aboveBound, x -> x.setBound(21), 50);
        edges.aboveBound("free(1)", Make::aboveBound, x -> x.free(1), 25);
        edges.aboveBound("layAnew(0)", Make::aboveBound, x -> x.layAnew(0), 50);
        edges.aboveBound("layAllAnew()", Make::aboveBound, SqueezedLines::layAllAnew, 50);
        edges.aboveBound("write(0, 0, 0, 5)", Make::aboveBound, x -> x.write(0, 0, 0, 5), 50);
        edges.aboveBound("write(0, 0, 0, 0)", Make::aboveBound, x -> x.write(0, 0, 0, 0), 42);
        edges.aboveBound("fill(0, 0, 5)", Make::aboveBound, x -> x.fill(0, 0, 5), 50);
        edges.aboveBound("fill(0, 7, 0)", Make::aboveBound, x -> x.fill(0, 7, 0), 50);
        edges.aboveBound("fill(0, 0, 0)", Make::aboveBound, x -> x.fill(0, 0, 0), 42);
        edges.aboveBound("add(0, 0, 5)", Make::aboveBound, x -> x.add(0, 0, 5), 50);
        edges.aboveBound("copy(1, 0, 0, 0)", Make::aboveBound, x -> x.copy(1, 0, 0, 0), 50);
        edges.aboveBound("copy(1, 7, 0, 0)", Make::aboveBound, x -> x.copy(1, 7, 0, 0), 42);
        edges.aboveBound("look(0, 0, 0)", Make::aboveBound, x -> x.look(0, 0, 0), 50);
        edges.aboveBound("readLines()", Make::aboveBound, x -> {
            Make.typeAll(x, "0:0=5*;1:7=0*;0:1=0*");
            return x.readLines();
        }, 42);
        edges.refused("newPage() above the bound", Make::aboveBound, SqueezedLines::newPage, Edges.LIMIT);
        edges.refused("write(0, 3, 0, 5) above the bound", Make::aboveBound, x -> x.write(0, 3, 0, 5), Edges.LIMIT);
        edges.refused("setRoom(2) above the bound", Make::aboveBound, x -> x.setRoom(2), Edges.LIMIT);
    }

    private void sumAboveBound() {
        SqueezedLines x = below();
        edges.due("setBound(26): the sum", x.setBound(26), 300);
        edges.due("setBound(25): below the sum", x.setBound(25), 26);
        edges.due("setBound(20): below the sum", x.setBound(20), 25);
        edges.due("count(1)", x.count(1), 26);
        edges.due("count(2)", x.count(2), 20);
        edges.due("page(0, 2): nothing is given up", x.page(0, 2), 7);
    }

    // ---- hints

    private void hintOfEachPage() {
        for (int page = 0; page < 10; page++) {
            SqueezedLines x = Make.withPages(10);
            x.look(page, 0, 0);
            for (int hint = 0; hint < 4; hint++) {
                edges.due("hint(" + hint + ", 0) after a look at page " + page, x.hint(hint, 0), hint == page % 4 ? page : Edges.NONE);
            }
        }
        SqueezedLines x = Make.withPages(1);
        edges.due("hint(3, 0)", x.hint(3, 0), Edges.NONE);
        edges.due("hint(4, 0)", x.hint(4, 0), Edges.NO_SUCH);
        edges.due("hint(-1, 0)", x.hint(-1, 0), Edges.NO_SUCH);
    }

    /** From no line to all lines. */
    private void whatAHintHas() {
        SqueezedLines x = Make.withPages(4);
        x.setRoom(8);
        edges.due("hint(2, 0): empty", x.hint(2, 0), Edges.NONE);
        edges.due("hint(2, 1): empty", x.hint(2, 1), Edges.NONE);
        x.look(2, 0, 0);
        edges.due("hint(2, 0)", x.hint(2, 0), 2);
        edges.due("hint(2, 1): no line", x.hint(2, 1), 0);
        for (int line = 0; line < 8; line++) {
            x.fill(2, line, 9);
            x.look(2, line, 0);
            edges.due("hint(2, 1) with the lines to " + line, x.hint(2, 1), (2 << line) - 1);
        }
        edges.due("hint(1, 0): another one is empty", x.hint(1, 0), Edges.NONE);
    }

    /** The lines 0 and 7 of page 1 are beside, as the hint 1 tells; there was one look so far, a miss. */
    private static SqueezedLines withHint() {
        SqueezedLines x = Make.withPages(10);
        x.fill(1, 0, 9);
        x.fill(1, 7, 9);
        x.look(1, 3, 0);
        return x;
    }

    private void looked(String name, SqueezedLines x, int hits, int misses) {
        edges.due(name + ": count(5)", x.count(5), hits);
        edges.due(name + ": count(6)", x.count(6), misses);
        edges.due(name + ": count(7)", x.count(7), hits + 2 * misses);
    }

    private void hit() {
        for (int line = 0; line < 8; line++) {
            SqueezedLines x = withHint();
            edges.due("look(1, " + line + ", 7)", x.look(1, line, 7), line % 7 == 0 ? 9 : 0);
            looked("a look at line " + line, x, 1, 1);
            edges.due("hint(1, 1)", x.hint(1, 1), 128 + 1);
        }
        for (int line = 0; line < 8; line++) {
            SqueezedLines x = withHint();
            x.fill(1, (line + 1) % 8, (line + 1) % 7 == 0 ? 0 : 8);
            x.look(1, line, 0);
            looked("a look at line " + line + ", another one has changed", x, 1, 1);
            edges.due("hint(1, 1) of before", x.hint(1, 1), 128 + 1);
        }
    }

    private void miss() {
        SqueezedLines empty = Make.withPages(4);
        empty.look(3, 0, 0);
        looked("the hint was empty", empty, 0, 1);
        for (int page = 5; page < 10; page += 4) {
            SqueezedLines x = withHint();
            x.look(page, 3, 0);
            looked("the hint had another page than " + page, x, 0, 2);
            x.look(1, 3, 0);
            looked("the hint has another page now", x, 0, 3);
        }
        for (int line = 0; line < 8; line++) {
            SqueezedLines x = withHint();
            x.fill(1, line, line % 7 == 0 ? 0 : 8);
            x.look(1, line, 0);
            looked("what the hint told of line " + line + " was wrong", x, 0, 2);
            x.look(1, line, 0);
            looked("what the hint tells of line " + line + " is right now", x, 1, 2);
        }
        SqueezedLines laidAnew = withHint();
        laidAnew.layAnew(1);
        laidAnew.look(1, 3, 0);
        looked("line 3 is in its slot as before", laidAnew, 1, 1);
        laidAnew.look(1, 0, 0);
        looked("line 0 is in its slot since the page was laid anew", laidAnew, 1, 2);
    }

    private void hintMadeAnew() {
        SqueezedLines x = withHint();
        x.fill(1, 0, 0);
        x.fill(1, 2, 9);
        x.fill(1, 4, 9);
        x.look(1, 7, 0);
        edges.due("hint(1, 1) after a hit", x.hint(1, 1), 128 + 1);
        x.look(1, 0, 0);
        edges.due("hint(1, 0) after a miss", x.hint(1, 0), 1);
        edges.due("hint(1, 1) after a miss, all lines", x.hint(1, 1), 128 + 16 + 4);
        x.fill(5, 6, 9);
        x.look(5, 0, 0);
        edges.due("hint(1, 0) after a look at page 5", x.hint(1, 0), 5);
        edges.due("hint(1, 1) after a look at page 5", x.hint(1, 1), 64);
        x.look(0, 0, 0);
        edges.due("hint(1, 0) after a look at page 0", x.hint(1, 0), 5);
    }

    private void onlyLooks() {
        for (Calls.Named call : Calls.undoable()) {
            if (!call.name().startsWith("look")) {
                SqueezedLines x = Make.lived();
                int[] pages = {x.hint(0, 0), x.hint(1, 0), x.hint(2, 0), x.hint(3, 0)};
                int[] sets = {x.hint(0, 1), x.hint(1, 1), x.hint(2, 1), x.hint(3, 1)};
                call.call().on(x);
                for (int hint = 0; hint < 4; hint++) {
                    boolean isFreed = call.name().equals("free(" + pages[hint] + ")");
                    edges.due("hint(" + hint + ", 0) after " + call.name(), x.hint(hint, 0), isFreed ? Edges.NONE : pages[hint]);
                    edges.due("hint(" + hint + ", 1) after " + call.name(), x.hint(hint, 1), isFreed ? Edges.NONE : sets[hint]);
                }
            }
        }
        SqueezedLines x = withHint();
        x.fill(1, 3, 9);
        x.peek(1, 3, 0);
        edges.due("hint(1, 1) after peek(1, 3, 0)", x.hint(1, 1), 128 + 1);
    }

    private void freedHint() {
        for (int page = 0; page < 10; page++) {
            SqueezedLines x = Make.withPages(10);
            x.look(page, 0, 0);
            x.free((page + 4) % 10);
            edges.due("hint(" + page % 4 + ", 0) after another page was freed", x.hint(page % 4, 0), page);
            x.free(page);
            edges.due("hint(" + page % 4 + ", 0) after free(" + page + ")", x.hint(page % 4, 0), Edges.NONE);
            edges.due("hint(" + page % 4 + ", 1) after free(" + page + ")", x.hint(page % 4, 1), Edges.NONE);
        }
        SqueezedLines x = withHint();
        x.free(5);
        x.free(9);
        edges.due("hint(1, 0) after free(5) and free(9)", x.hint(1, 0), 1);
        edges.due("hint(1, 1) after free(5) and free(9)", x.hint(1, 1), 128 + 1);
        x.free(1);
        x.newPage();
        edges.due("hint(1, 0) after free(1) and newPage()", x.hint(1, 0), Edges.NONE);
        x.look(1, 0, 0);
        looked("a look at the new page 1", x, 0, 2);
    }

    // ---- the text

    private void textLength() {
        SqueezedLines x = new SqueezedLines();
        edges.due("clearText() of a new object", x.clearText(), 0);
        for (int length = 1; length <= 80; length++) {
            edges.due("type(48)", x.type('0'), length);
        }
        edges.due("type(48) with 80 characters", x.type('0'), Edges.LIMIT);
        edges.due("clearText()", x.clearText(), 80);
        edges.due("syntaxError() of the empty text", x.syntaxError(), 0);
    }

    private void error(String text, int want) {
        SqueezedLines x = new SqueezedLines();
        Make.typeAll(x, text);
        edges.due("syntaxError() of " + text, x.syntaxError(), want);
        edges.due("readLines() of " + text, x.readLines(), want == Edges.NONE ? 0 : Edges.BAD_TEXT);
    }

    private void listOfEntries() {
        error("", 0);
        error(";", 0);
        error("0:0=1*", Edges.NONE);
        error("0:0=1*;", 7);
        error("0:0=1*;;0:0=1*", 7);
        error("0:0=1*,0:0=1*", 6);
        error("0:0=1*:", 6);
        error("0:0=1*0:0=1*", 6);
        error("0:0=1*;0:0=1*", Edges.NONE);
        error("0:0=1*;1:1=1,2,3,4,5,6,7,8;2:2=2*", Edges.NONE);
        String ten = "0:0=1*;".repeat(10);
        error(ten + "9:7=65535*", Edges.NONE);
        error(ten + "9:7=65535;", 79);
        error(ten + "9:7=65535,", 80);
    }

    private void placesOfEntries() {
        error("0:0=1*", Edges.NONE);
        error("9:7=1*", Edges.NONE);
        for (int sign = 33; sign <= 126; sign++) {
            boolean isPage = sign >= '0' && sign <= '9';
            boolean isLine = sign >= '0' && sign <= '7';
            error((char) sign + ":3=1*", isPage ? Edges.NONE : 0);
            error("3" + (char) sign + "3=1*", sign == ':' ? Edges.NONE : 1);
            error("3:" + (char) sign + "=1*", isLine ? Edges.NONE : 2);
            error("3:3" + (char) sign + "1*", sign == '=' ? Edges.NONE : 3);
            error("3:3=" + (char) sign, isPage ? 5 : 4);
        }
    }

    private void oneValue() {
        error("0:0=1", 5);
        error("0:0=1*", Edges.NONE);
        error("0:0=*", 4);
        error("0:0=1**", 6);
        error("0:0=1;", 5);
        error("0:0=1,2*", 7);
        SqueezedLines x = Make.withPages(10);
        Make.typeAll(x, "9:7=65535*");
        edges.due("readLines()", x.readLines(), 1);
        for (int word = 0; word < 8; word++) {
            edges.due("peek(9, 7, " + word + ")", x.peek(9, 7, word), 65535);
        }
    }

    private void eightValues() {
        error("0:0=1,2,3,4,5,6,7", 17);
        error("0:0=1,2,3,4,5,6,7;", 17);
        error("0:0=1,2,3,4,5,6,7,8", Edges.NONE);
        error("0:0=1,2,3,4,5,6,7,8,", 19);
        error("0:0=1,2,3,4,5,6,7,8*", 19);
        error("0:0=1,2,3,4,5,6,7,,8", 18);
        error("0:0=,1,2,3,4,5,6,7,8", 4);
        error("0:0=1;2;3;4;5;6;7;8", 5);
        SqueezedLines x = Make.withPages(1);
        Make.typeAll(x, "0:0=65535,0,1,10,255,256,65534,32768");
        edges.due("readLines()", x.readLines(), 1);
        int[] words = {65535, 0, 1, 10, 255, 256, 65534, 32768};
        for (int word = 0; word < 8; word++) {
            edges.due("peek(0, 0, " + word + ")", x.peek(0, 0, word), words[word]);
        }
    }

    private void valuesOfTexts() {
        int[] values = {0, 1, 9, 10, 99, 100, 999, 1000, 6553, 6554, 9999, 10000, 59999, 64999, 65499, 65529, 65530, 65535};
        for (int value : values) {
            error("0:0=" + value + "*", Edges.NONE);
            error("0:0=0" + value + "*", 5);
            error("0:0=0,0,0,0,0,0,0," + value, Edges.NONE);
            error("0:0=0,0,0,0,0,0,0,0" + value, 19);
        }
        int[] tooGreat = {65536, 65539, 65540, 65600, 66000, 70000, 99999};
        for (int value : tooGreat) {
            error("0:0=" + value + "*", 8);
            error("0:0=0,0,0,0,0,0,0," + value, 22);
        }
        error("0:0=655350*", 9);
        error("0:0=100000*", 9);
        error("0:0=2147483648*", 9);
        error("0:0=4294967296*", 9);
        error("0:0=-1*", 4);
        error("0:0=00*", 5);
    }

    // ---- undo

    private void statesThatAreSaved() {
        for (Calls.Named call : Calls.undoable()) {
            edges.undoable(call.name(), Make::lived, call.call());
            edges.undoable(call.name() + " with two saved states", EdgesOfMemory::livedWithTwoSaved, call.call());
        }
        for (Calls.Named call : Calls.notUndoable()) {
            edges.changesNoState(call.name(), Make::lived, call.call());
        }
        for (Calls.Refused call : Calls.refused()) {
            SqueezedLines x = call.making().get();
            call.call().on(x);
            edges.due("saved states after " + call.name(), Edges.savedStates(x), Edges.savedStates(call.making().get()));
        }
    }

    private static SqueezedLines livedWithTwoSaved() {
        SqueezedLines x = Make.lived();
        for (int i = 0; i < 6; i++) {
            x.setBound(300);
        }
        for (int i = 0; i < 6; i++) {
            x.undo();
        }
        x.look(2, 0, 0);
        x.look(2, 0, 0);
        return x;
    }

    private void sixStates() {
        for (int calls = 0; calls <= 20; calls++) {
            SqueezedLines x = new SqueezedLines();
            for (int i = 0; i < calls; i++) {
                x.setBound(100 + i);
            }
            for (int left = Math.min(calls, 6) - 1; left >= 0; left--) {
                edges.due("undo() after " + calls, x.undo(), left);
            }
            edges.due("undo() at last after " + calls, x.undo(), Edges.NOT_POSSIBLE);
        }
    }

    private void seventhState() {
        for (int calls = 5; calls <= 20; calls++) {
            SqueezedLines x = new SqueezedLines();
            for (int i = 1; i <= calls; i++) {
                x.setBound(100 + i);
            }
            for (int i = calls - 1; i >= Math.max(0, calls - 6); i--) {
                x.undo();
                edges.due("count(2) after undo() of " + calls, x.count(2), i == 0 ? 300 : 100 + i);
            }
            edges.due("undo() at last after " + calls, x.undo(), Edges.NOT_POSSIBLE);
            edges.due("count(2) at last after " + calls, x.count(2), calls <= 6 ? 300 : 100 + calls - 6);
        }
    }

    private void whatTheStateIs() {
        SqueezedLines x = Make.lived();
        long before = x.digest();
        x.look(0, 5, 0);
        x.undo();
        edges.due("hits, misses and hints come back", x.digest(), before);
        x.setRoom(0);
        x.undo();
        edges.due("room, slot sizes and how often pages were laid anew come back", x.digest(), before);
        x.setBound(20);
        x.undo();
        edges.due("the bound comes back", x.digest(), before);
        x.free(1);
        x.undo();
        edges.due("pages and their lines come back", x.digest(), before);
        wholeStateComesBack();
        x.fill(0, 0, 1);
        edges.due("type(59)", x.type(';'), 14);
        x.undo();
        edges.due("clearText(): the text stays as it is", x.clearText(), 14);
        x.fill(0, 0, 1);
        Make.typeAll(x, "0:0");
        x.clearText();
        x.undo();
        edges.due("clearText(): the text stays empty", x.clearText(), 0);
        Make.typeAll(x, "0:0=7*");
        x.readLines();
        x.undo();
        edges.due("clearText(): a text that was read does not come back", x.clearText(), 0);
        SqueezedLines y = new SqueezedLines();
        y.setBound(100);
        y.setBound(200);
        edges.due("undo()", y.undo(), 1);
        edges.due("undo(): the saved states do not come back", y.undo(), 0);
    }

    /** The first and the last word, the first and the last hint. */
    private void wholeStateComesBack() {
        for (int line = 0; line < 80; line++) {
            int page = line / 8;
            SqueezedLines x = Make.withPages(10);
            long before = x.digest();
            x.write(page, line % 8, line % 8, 1000);
            x.undo();
            edges.due("a word of the line " + line % 8 + " of page " + page + " comes back", x.digest(), before);
            edges.due("its value", x.peek(page, line % 8, line % 8), 0);
            edges.due("its form", x.line(page, line % 8, 0), 0);
        }
        for (int page = 0; page < 10; page++) {
            SqueezedLines x = Make.withPages(10);
            x.fill(page, 7, 1);
            x.look(page, 0, 0);
            x.fill(page, 6, 1);
            x.look(page, 6, 0);
            x.undo();
            edges.due("hint(" + page % 4 + ", 1) comes back", x.hint(page % 4, 1), 128);
            x.undo();
            x.undo();
            edges.due("hint(" + page % 4 + ", 0) comes back", x.hint(page % 4, 0), Edges.NONE);
        }
    }

    // ---- error codes

    private void refusalsChangeNothing() {
        for (Calls.Refused call : Calls.refused()) {
            edges.refused(call.name(), call.making(), call.call(), call.code());
        }
    }

    private void orderOfErrorCodes() {
        for (Calls.Refused call : Calls.refusedForSeveralReasons()) {
            edges.refused(call.name(), call.making(), call.call(), call.code());
        }
    }

    private void noneIsNoErrorCode() {
        SqueezedLines x = Make.withPages(1);
        long before = x.digest();
        edges.due("loosest()", x.loosest(), Edges.NONE);
        edges.due("hint(0, 0)", x.hint(0, 0), Edges.NONE);
        Make.typeAll(x, "0:0=5*");
        edges.due("syntaxError()", x.syntaxError(), Edges.NONE);
        edges.due("digest()", x.digest(), before);
        edges.due("readLines() where syntaxError() is NONE", x.readLines(), 1);
        edges.due("hint(0, 2): an error code comes before NONE", x.hint(0, 2), Edges.BAD_VALUE);
    }

    private void noSuch() {
        edges.due("NO_SUCH", SqueezedLines.NO_SUCH, -1);
        SqueezedLines x = Make.withPages(1);
        edges.due("peek(1, 0, 0): no such page", x.peek(1, 0, 0), -1);
        edges.due("peek(0, 8, 0): no such line", x.peek(0, 8, 0), -1);
        edges.due("peek(0, 0, 8): no such word", x.peek(0, 0, 8), -1);
        edges.due("hint(4, 0): no such hint", x.hint(4, 0), -1);
    }

    private void badValue() {
        edges.due("BAD_VALUE", SqueezedLines.BAD_VALUE, -2);
        SqueezedLines x = Make.withPages(1);
        edges.due("fill(0, 0, 65536)", x.fill(0, 0, 65536), -2);
        edges.due("count(9)", x.count(9), -2);
        edges.due("page(0, 5)", x.page(0, 5), -2);
        edges.due("line(0, 0, 5)", x.line(0, 0, 5), -2);
        edges.due("lines(5)", x.lines(5), -2);
        edges.due("hint(0, 2)", x.hint(0, 2), -2);
    }

    private void notPossible() {
        edges.due("NOT_POSSIBLE", SqueezedLines.NOT_POSSIBLE, -3);
        edges.due("undo()", new SqueezedLines().undo(), -3);
    }

    private void limit() {
        edges.due("LIMIT", SqueezedLines.LIMIT, -4);
        edges.due("newPage() of ten pages", Make.withPages(10).newPage(), -4);
        edges.due("newPage() at the bound", Make.atBound().newPage(), -4);
        SqueezedLines x = new SqueezedLines();
        Make.typeAll(x, "1".repeat(80));
        edges.due("type(49) with 80 characters", x.type('1'), -4);
    }

    private void badText() {
        edges.due("BAD_TEXT", SqueezedLines.BAD_TEXT, -5);
        edges.due("readLines() of the empty text", new SqueezedLines().readLines(), -5);
    }

    private void none() {
        edges.due("NONE", SqueezedLines.NONE, -6);
        SqueezedLines x = new SqueezedLines();
        edges.due("loosest()", x.loosest(), -6);
        edges.due("hint(3, 1)", x.hint(3, 1), -6);
        Make.typeAll(x, "0:0=0*");
        edges.due("syntaxError()", x.syntaxError(), -6);
    }
}
