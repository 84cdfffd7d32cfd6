/** The sentences of the promises 24 to 27: the text. */
final class EdgesOfText {
    private static final String ENTRY = "0:0=1*;";

    private final Edges edges;

    EdgesOfText(Edges edges) {
        this.edges = edges;
    }

    void run() {
        type();
        clearText();
        syntaxError();
        readLines();
    }

    private static SqueezedLines withText(String text) {
        SqueezedLines x = new SqueezedLines();
        Make.typeAll(x, text);
        return x;
    }

    private static SqueezedLines withText(int pages, String text) {
        SqueezedLines x = Make.withPages(pages);
        Make.typeAll(x, text);
        return x;
    }

    // ---- promise 24

    private void type() {
        edges.of(24, "Appends a character to the text.", () -> {
            edges.changesNoState("type(48)", Make::lived, x -> x.type('0'));
            SqueezedLines x = Make.withPages(1);
            String text = "0:7=65535*";
            for (int i = 0; i < text.length(); i++) {
                x.type(text.charAt(i));
                edges.due("syntaxError() of " + text.substring(0, i + 1), x.syntaxError(), i == text.length() - 1 ? Edges.NONE : i + 1);
            }
            x.readLines();
            edges.due("peek(0, 7, 0)", x.peek(0, 7, 0), 65535);
        });
        edges.of(24, "`code`: character code, 33 to 126", () ->
                edges.range("type", Make::lived, 33, 126, Edges.BAD_VALUE, SqueezedLines::type));
        edges.of(24, "the new length of the text", () -> {
            SqueezedLines x = new SqueezedLines();
            edges.due("type(33)", x.type(33), 1);
            edges.due("type(32)", x.type(32), Edges.BAD_VALUE);
            for (int length = 2; length <= 80; length++) {
                edges.due("type(126)", x.type(126), length);
            }
        });
        edges.of(24, "BAD_VALUE if code is out of range;", () -> {
            int[] wrong = {0, -1, -48, 32, 127, 128, 256 + 48, 65536 + 48, 65536 * 2 + 48};
            for (int code : wrong) {
                edges.refused("type(" + code + ")", Make::lived, x -> x.type(code), Edges.BAD_VALUE);
                edges.refused("type(" + code + ") with 80 characters", () -> withText("0".repeat(80)), x -> x.type(code), Edges.BAD_VALUE);
            }
        });
        edges.of(24, "LIMIT if the text has 80 characters", () -> {
            edges.refused("type(42) with 80 characters", () -> withText(1, ENTRY.repeat(10) + "0:0=65535*"), x -> x.type('*'), Edges.LIMIT);
            SqueezedLines x = withText("0".repeat(79));
            edges.due("type(48) with 79 characters", x.type('0'), 80);
            edges.due("type(48) with 80 characters", x.type('0'), Edges.LIMIT);
            x.clearText();
            edges.due("type(48) with no character", x.type('0'), 1);
        });
    }

    // ---- promise 25

    private void clearText() {
        edges.of(25, "Makes the text empty.", () -> {
            edges.changesNoState("clearText()", Make::lived, SqueezedLines::clearText);
            SqueezedLines x = withText(1, "0:0=1*");
            x.clearText();
            edges.due("syntaxError()", x.syntaxError(), 0);
            edges.due("readLines()", x.readLines(), Edges.BAD_TEXT);
            Make.typeAll(x, "0:1=2*");
            edges.due("readLines() of another text", x.readLines(), 1);
            edges.due("peek(0, 0, 0): nothing of the old text", x.peek(0, 0, 0), 0);
            edges.due("peek(0, 1, 0)", x.peek(0, 1, 0), 2);
        });
        edges.of(25, "the previous length of the text.", () -> {
            for (int length = 0; length <= 80; length++) {
                SqueezedLines x = withText("9".repeat(length));
                edges.due("clearText() of " + length, x.clearText(), length);
                edges.due("clearText() again", x.clearText(), 0);
            }
        });
    }

    // ---- promise 26

    private void error(String text, int want) {
        edges.due("syntaxError() of " + text, withText(text).syntaxError(), want);
    }

    private void syntaxError() {
        edges.of(26, "Finds the first syntax error of the text.", () -> {
            edges.changesNothing("syntaxError()", Make::lived, SqueezedLines::syntaxError);
            error("a", 0);
            error("0a:0=a*", 1);
            error("0:8=99999*", 2);
            error("0:0=1*;a", 7);
        });
        edges.of(26, "the index of the first character for which no line list, of any length, begins with the characters of"
                + " the text up to and including this one;", this::firstErrors);
        edges.of(26, "the length of the text if there is no such character but the text is not a line list", () -> {
            String list = "9:7=65535,0,1,10,100,1000,10000,65535";
            for (int length = 1; length < list.length(); length++) {
                boolean isList = length >= list.length() - 4;
                error(list.substring(0, length), isList ? Edges.NONE : length);
                error("0:0=1*;" + list.substring(0, length), isList ? Edges.NONE : 7 + length);
            }
            error(ENTRY, 7);
            error("0:0=1*;".repeat(11) + "0:0", 80);
            error("0:0=1*;".repeat(11) + "0:8", 79);
            error("0:0=1*;".repeat(10) + "0:0=1,1,1,", 80);
        });
        edges.of(26, "(this holds for the empty text);", () -> {
            error("", 0);
            SqueezedLines x = withText("0:0=1*");
            x.clearText();
            edges.due("syntaxError() after clearText()", x.syntaxError(), 0);
            SqueezedLines y = withText("0:0=1*");
            y.readLines();
            edges.due("syntaxError() after readLines()", y.syntaxError(), 0);
        });
        edges.of(26, "NONE if the text is a line list", () -> {
            error("0:0=0*", Edges.NONE);
            error("9:7=65535*", Edges.NONE);
            error("0:0=0,0,0,0,0,0,0,0", Edges.NONE);
            error("0:0=1*;".repeat(10) + "0:0=65535*", Edges.NONE);
            error("9:7=65535,65535,65535,65535,65535,65535,65535,65535", Edges.NONE);
        });
    }

    /** Each sign at each kind of place; the signs that may stand there have no error at this place. */
    private void firstErrors() {
        String[] beginnings = {"", "9", "9:", "9:7", "9:7=", "9:7=0", "9:7=6", "9:7=6553", "9:7=6554", "9:7=65535", "9:7=1*",
            "9:7=1,1,1,1,1,1,1,0", "9:7=1,1,1,1,1,1,1,6553", "9:7=1,1,1,1,1,1,1", "9:7=1,", "9:7=1*;"};
        String[] allowed = {"0123456789", ":", "01234567", "=", "0123456789", "*,", "0123456789*,", "012345*,", "*,", "*,", ";",
            ";", "012345;", "0123456789,", "0123456789", "0123456789"};
        for (int i = 0; i < beginnings.length; i++) {
            for (char sign = 33; sign <= 126; sign++) {
                int got = withText(beginnings[i] + sign).syntaxError();
                boolean isErrorHere = got == beginnings[i].length();
                edges.due("syntaxError() of " + beginnings[i] + sign + " is at its last sign", isErrorHere ? 1 : 0,
                        allowed[i].indexOf(sign) < 0 ? 1 : 0);
                int gotOfLonger = withText(beginnings[i] + sign + "!").syntaxError();
                edges.due("syntaxError() of " + beginnings[i] + sign + "!", gotOfLonger,
                        beginnings[i].length() + (isErrorHere ? 0 : 1));
            }
        }
    }

    // ---- promise 27

    private void readLines() {
        edges.of(27, "Gives lines the words of the entries of the text, from left to right,", this::leftToRight);
        edges.of(27, "up to the first entry whose page does not exist", this::pageThatDoesNotExist);
        edges.of(27, "or for which LIMIT would be returned,", this::entryAndLimit);
        edges.of(27, "and makes the text empty.", () -> {
            String[] texts = {"0:0=1*", "9:0=1*", "0:0=1*;9:0=1*;0:1=1*"};
            for (String text : texts) {
                SqueezedLines x = withText(1, text);
                x.readLines();
                edges.due("clearText() after readLines() of " + text, x.clearText(), 0);
                edges.due("readLines() again", x.readLines(), Edges.BAD_TEXT);
            }
        });
        edges.of(27, "One state is saved for the whole call,", () -> {
            edges.undoable("readLines() of two entries", Make::lived, SqueezedLines::readLines);
            edges.undoable("readLines() of eleven entries", () -> withText(1, ENTRY.repeat(10) + "0:7=65535*"), SqueezedLines::readLines);
        });
        edges.of(27, "also if no line is changed.", () -> {
            edges.undoable("readLines() of no entry", () -> withText("0:0=1*"), SqueezedLines::readLines);
            edges.undoable("readLines() of the words that are", () -> withText(1, "0:0=0*"), SqueezedLines::readLines);
            edges.undoable("readLines() of an entry above the bound", () -> {
                SqueezedLines x = Make.atBound();
                edges.due("ifWritten(1, 0, 0, 1)", x.ifWritten(1, 0, 0, 1), 28);
                Make.typeAll(x, "1:0=1*");
                return x;
            }, SqueezedLines::readLines);
        });
        edges.of(27, "Undoable.", () -> {
            SqueezedLines x = Make.lived();
            long before = x.digest();
            edges.due("readLines()", x.readLines(), 2);
            edges.due("digest() is another one", x.digest() == before ? 1 : 0, 0);
            edges.due("undo()", x.undo(), 5);
            edges.due("digest()", x.digest(), before);
            edges.due("undo()", x.undo(), 4);
        });
        edges.of(27, "the number of entries that are carried out;", () -> {
            edges.due("readLines() without pages", withText("0:0=1*;0:0=2*").readLines(), 0);
            edges.due("readLines() of one entry", withText(1, "0:0=1*").readLines(), 1);
            edges.due("readLines() of ten entries", withText(1, ENTRY.repeat(9) + "0:0=1*").readLines(), 10);
            edges.due("readLines() of 80 characters", withText(1, ENTRY.repeat(10) + "0:0=65535*").readLines(), 11);
            edges.due("readLines() that stops", withText(2, "0:0=1*;1:0=1*;2:0=1*;0:1=1*").readLines(), 2);
        });
        edges.of(27, "BAD_TEXT if the text is not a line list", () -> {
            String[] texts = {"", "0", "0:0=1*;", "0:0=1", "0:0=1,2,3,4,5,6,7", "0:0=65536*", "0:0=01*", "0:8=1*", ";0:0=1*", "!"};
            for (String text : texts) {
                edges.refused("readLines() of " + text, () -> withText(1, text), SqueezedLines::readLines, Edges.BAD_TEXT);
                edges.refused("readLines() of entries and " + text, () -> withText(1, ENTRY + ENTRY + text), SqueezedLines::readLines,
                        Edges.BAD_TEXT);
            }
            edges.refused("readLines() of 80 characters", () -> withText(1, ENTRY.repeat(11) + "0:0"), SqueezedLines::readLines, Edges.BAD_TEXT);
        });
        edges.of(27, "(then the text stays).", () -> {
            SqueezedLines x = withText(1, "0:7=65535,1,2,3,4,5,6");
            edges.due("readLines()", x.readLines(), Edges.BAD_TEXT);
            edges.due("syntaxError()", x.syntaxError(), 21);
            edges.due("type(44)", x.type(','), 22);
            edges.due("type(55)", x.type('7'), 23);
            edges.due("readLines()", x.readLines(), 1);
            edges.due("peek(0, 7, 0)", x.peek(0, 7, 0), 65535);
            edges.due("peek(0, 7, 7)", x.peek(0, 7, 7), 7);
        });
    }

    private void leftToRight() {
        SqueezedLines x = withText(10, "9:7=1*;0:0=65535,0,1,2,3,4,5,65534;9:7=2*;0:7=3*;9:0=0*");
        edges.due("readLines()", x.readLines(), 5);
        int[] words = {65535, 0, 1, 2, 3, 4, 5, 65534};
        for (int word = 0; word < 8; word++) {
            edges.due("peek(0, 0, " + word + ")", x.peek(0, 0, word), words[word]);
            edges.due("peek(9, 7, " + word + "): the last entry", x.peek(9, 7, word), 2);
            edges.due("peek(0, 7, " + word + ")", x.peek(0, 7, word), 3);
        }
        edges.due("lines(0): no other line", x.lines(0), 77);
        SqueezedLines laidAnew = withText(1, "0:0=1*;0:1=1*;0:2=1*;0:3=1*;0:3=0*");
        edges.due("readLines()", laidAnew.readLines(), 5);
        edges.due("page(0, 0): the fourth entry laid the page anew", laidAnew.page(0, 0), 1);
        edges.due("count(8)", laidAnew.count(8), 1);
    }

    private void pageThatDoesNotExist() {
        for (int page = 0; page <= 9; page++) {
            SqueezedLines x = Make.withPages(10);
            x.free(page);
            int other = (page + 1) % 10;
            Make.typeAll(x, other + ":0=1*;" + page + ":0=1*;" + other + ":1=1*");
            edges.due("readLines() without page " + page, x.readLines(), 1);
            edges.due("peek(" + other + ", 0, 0)", x.peek(other, 0, 0), 1);
            edges.due("peek(" + other + ", 1, 0)", x.peek(other, 1, 0), 0);
            edges.due("peek(" + page + ", 0, 0)", x.peek(page, 0, 0), Edges.NO_SUCH);
        }
        edges.due("readLines() with all pages", withText(10, "0:0=1*;9:0=1*").readLines(), 2);
    }

    /** Each entry by itself: at the bound it is carried out, one above it is not, and nothing behind it is. */
    private void entryAndLimit() {
        SqueezedLines atBound = withText(5, "0:0=1*;0:1=1*;0:2=1000,0,0,0,0,0,0,0;0:0=0*");
        atBound.setBound(29);
        edges.due("readLines() to the bound", atBound.readLines(), 4);
        edges.due("count(1)", atBound.count(1), 21);
        SqueezedLines oneAbove = withText(5, "0:0=1*;0:1=1*;0:2=1000,0,0,0,0,0,0,0;0:0=0*");
        oneAbove.setBound(28);
        edges.due("readLines() to one above the bound", oneAbove.readLines(), 2);
        edges.due("count(1)", oneAbove.count(1), 21);
        edges.due("peek(0, 0, 0): the entry behind", oneAbove.peek(0, 0, 0), 1);
        edges.due("peek(0, 2, 0)", oneAbove.peek(0, 2, 0), 0);
        SqueezedLines made = Make.atBound();
        Make.typeAll(made, "0:0=0*;1:0=5*;1:1=5*");
        edges.due("readLines(): the first makes room for the second, not for the third", made.readLines(), 2);
        edges.due("count(1)", made.count(1), 20);
        SqueezedLines above = Make.aboveBound();
        Make.typeAll(above, "0:0=5*;0:0=0*;0:0=0*;0:0=5*;0:1=0*");
        edges.due("readLines() above the bound: the same, less, the same, more", above.readLines(), 3);
        edges.due("count(1)", above.count(1), 42);
        SqueezedLines laidAnew = Make.withPages(1);
        Make.rawLines(laidAnew, 0, 0, 2);
        laidAnew.setBound(64);
        Make.typeAll(laidAnew, "0:3=1000,0,0,0,0,0,0,0");
        edges.due("readLines() that would lay the page anew, to 65", laidAnew.readLines(), 0);
        laidAnew.setBound(65);
        Make.typeAll(laidAnew, "0:3=1000,0,0,0,0,0,0,0");
        edges.due("readLines() that lays the page anew, to 65", laidAnew.readLines(), 1);
    }
}
