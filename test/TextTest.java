/** Promises 24 to 27. */
public final class TextTest {
    private static final Check check = new Check("TextTest");
    private static final int NONE = -6;

    public static void main(String[] args) {
        typing();
        clearing();
        errorsInEntries();
        errorsInValues();
        errorsInLists();
        everyOtherSign();
        longestText();
        readingEntries();
        readingErrors();
        readingStopsAtAPage();
        readingStopsAtTheBound();
        readingIsOneState();
        check.end();
    }

    private static void typing() {
        SqueezedLines x = new SqueezedLines();
        int[] wrong = {32, 127, 0, -1, 128, 256 + 48, 65536 + 48, Integer.MIN_VALUE, Integer.MAX_VALUE};
        for (int code : wrong) {
            check.due("type(" + code + ")", x.type(code), -2);
        }
        check.due("type(33)", x.type(33), 1);
        check.due("type(126)", x.type(126), 2);
        for (int length = 3; length <= 80; length++) {
            check.due("type(50)", x.type(50), length);
        }
        check.due("type(50) of 80", x.type(50), -4);
        check.due("type(32) of 80: BAD_VALUE first", x.type(32), -2);
        check.due("undo(): typing saves nothing", x.undo(), -3);
        check.due("clearText()", x.clearText(), 80);
        check.due("type(50)", x.type(50), 1);
    }

    private static void clearing() {
        SqueezedLines x = new SqueezedLines();
        check.due("clearText() of the empty text", x.clearText(), 0);
        Make.typeAll(x, "0:0");
        check.due("clearText()", x.clearText(), 3);
        check.due("clearText() again", x.clearText(), 0);
        check.due("syntaxError() of the empty text", x.syntaxError(), 0);
        check.due("undo(): clearing saves nothing", x.undo(), -3);
        Make.typeAll(x, "3:7=5*");
        check.due("syntaxError(): nothing of the old text is left", x.syntaxError(), NONE);
    }

    private static void error(String text, int want) {
        SqueezedLines x = new SqueezedLines();
        Make.typeAll(x, text);
        long before = x.digest();
        check.due("syntaxError() of " + text, x.syntaxError(), want);
        check.due("readLines() of " + text, x.readLines(), want == NONE ? 0 : -5);
        check.due("digest() of " + text, x.digest(), before);
        check.due("undo() of " + text, x.undo(), want == NONE ? 0 : -3);
        check.due("clearText() of " + text, x.clearText(), want == NONE ? 0 : text.length());
    }

    private static void errorsInEntries() {
        error("", 0);
        error("0", 1);
        error("9:", 2);
        error("9:7", 3);
        error("9:7=", 4);
        error("9:7=1", 5);
        error("9:7=1*", NONE);
        error("0:0=0*", NONE);
        error("a:0=0*", 0);
        error(":0=0*", 0);
        error("/:0=0*", 0);
        error("10:0=0*", 1);
        error("0;0=0*", 1);
        error("0:8=0*", 2);
        error("0:9=0*", 2);
        error("0:/=0*", 2);
        error("0::=0*", 2);
        error("0:00=0*", 3);
        error("0:0:0*", 3);
        error("0:0=*", 4);
        error("0:0=,1", 4);
        error("0:0=-1*", 4);
        error("0:0=+1*", 4);
        error("0:0=1;", 5);
        error("0:0=1*0", 6);
        error("0:0=1**", 6);
        error("0:0=1*,", 6);
    }

    private static void errorsInValues() {
        error("0:0=65535*", NONE);
        error("0:0=65536*", 8);
        error("0:0=65540*", 8);
        error("0:0=6554", 8);
        error("0:0=6553", 8);
        error("0:0=65530*", NONE);
        error("0:0=65600*", 8);
        error("0:0=9999*", NONE);
        error("0:0=10000*", NONE);
        error("0:0=99999*", 8);
        error("0:0=70000*", 8);
        error("0:0=655350*", 9);
        error("0:0=100000*", 9);
        error("0:0=00*", 5);
        error("0:0=01*", 5);
        error("0:0=10*", NONE);
        error("0:0=0,0,0,0,0,0,0,00", 19);
        error("0:0=0,0,0,0,0,0,0,65536", 22);
        error("0:0=1a*", 5);
        error("0:0=1:", 5);
    }

    private static void errorsInLists() {
        error("0:0=1,2,3,4,5,6,7,8", NONE);
        error("0:0=1,2,3,4,5,6,7", 17);
        error("0:0=1,2,3,4,5,6,7,", 18);
        error("0:0=1,2,3,4,5,6,7,8,", 19);
        error("0:0=1,2,3,4,5,6,7,8*", 19);
        error("0:0=1,2,3,4,5,6,7;", 17);
        error("0:0=1,2*", 7);
        error("0:0=1,,", 6);
        error("0:0=1,2;", 7);
        error("0:0=65535,0,10,0,1,1,1,65535;3:3=0*", NONE);
        error("0:0=1*;", 7);
        error("0:0=1*;;", 7);
        error(";0:0=1*", 0);
        error("0:0=1*;1", 8);
        error("0:0=1*;1:1=2*;2:2=3*", NONE);
        error("0:0=1*;1:1=2*;2:8=3*", 16);
        error("0:0=1,2,3,4,5,6,7,8;", 20);
        error("0:0=1,2,3,4,5,6,7,8;1:1=1,2", 27);
        error("0:0=1,2,3,4,5,6,7,8;1:1=1,2,3,4,5,6,7,8", NONE);
        error("0:0=1*;1:1=1,2,3,4,5,6,7,8;2:2=9*", NONE);
        error("0:0=1,2,3,4,5,6,7,8;1:1=9*;2:2=1,2,3,4,5,6,7,8,", 46);
    }

    /** Each sign at each place of an entry, against what may stand there. */
    private static void everyOtherSign() {
        String[] beginnings = {"", "0", "0:", "0:0", "0:0=", "0:0=0", "0:0=1", "0:0=6553", "0:0=6554", "0:0=10000",
            "0:0=1*", "0:0=1,2,3,4,5,6,7,8", "0:0=1,2,3,4,5,6,7,0", "0:0=1,2", "0:0=1*;"};
        String[] allowed = {"0123456789", ":", "01234567", "=", "0123456789", "*,", "0123456789*,", "012345*,", "*,",
            "*,", ";", "0123456789;", ";", "0123456789,", "0123456789"};
        for (int i = 0; i < beginnings.length; i++) {
            SqueezedLines x = new SqueezedLines();
            for (char sign = 33; sign <= 126; sign++) {
                if (sign % 30 == 0) {
                    x = new SqueezedLines();
                }
                Make.typeAll(x, beginnings[i] + sign);
                int length = beginnings[i].length() + 1;
                boolean isAllowed = allowed[i].indexOf(sign) >= 0;
                boolean isList = isAllowed && (beginnings[i].equals("0:0=1,2,3,4,5,6,7,8") && sign != ';'
                        || sign == '*');
                check.due("syntaxError() of " + beginnings[i] + sign, x.syntaxError(),
                        isList ? NONE : isAllowed ? length : length - 1);
                x.clearText();
            }
        }
    }

    private static void longestText() {
        String entry = "0:0=1*;";
        StringBuilder text = new StringBuilder();
        for (int i = 0; i < 11; i++) {
            text.append(entry);
        }
        error(text + "0:0", 80);
        error(text + "0:8", 79);
        error("0:0=1,2,3,4,5,6,7,8;" + "0:0=1,2,3,4,5,6,7,8;" + "0:0=1,2,3,4,5,6,7,8;" + "0:0=11,2,3,4,5,6,7,8", NONE);
    }

    private static void readingEntries() {
        SqueezedLines x = Make.withPages(3);
        Make.typeAll(x, "0:1=65535*;2:7=1,20,300,4000,50000,0,7,8;0:1=4*");
        check.due("readLines()", x.readLines(), 3);
        int[] words = {1, 20, 300, 4000, 50000, 0, 7, 8};
        for (int word = 0; word < 8; word++) {
            check.due("peek(2, 7, " + word + ")", x.peek(2, 7, word), words[word]);
            check.due("peek(0, 1, " + word + "): the later entry", x.peek(0, 1, word), 4);
            check.due("peek(0, 0, " + word + ")", x.peek(0, 0, word), 0);
        }
        check.due("line(2, 7, 0)", x.line(2, 7, 0), 4);
        check.due("line(0, 1, 0)", x.line(0, 1, 0), 1);
        check.due("clearText(): the text is empty", x.clearText(), 0);
        check.due("readLines() of the empty text", x.readLines(), -5);
        Make.typeAll(x, "0:0=1*;0:2=1*;0:3=1*");
        check.due("readLines() that lays page 0 anew", x.readLines(), 3);
        check.due("page(0, 0)", x.page(0, 0), 1);
        check.due("count(8)", x.count(8), 1);
        check.due("count(5): reading is no look", x.count(5), 0);
        check.due("count(6): reading is no look", x.count(6), 0);
    }

    private static void readingErrors() {
        SqueezedLines x = Make.withPages(1);
        Make.typeAll(x, "0:0=1*;0:1=2");
        long before = x.digest();
        check.due("readLines() of no list", x.readLines(), -5);
        check.due("digest() after BAD_TEXT", x.digest(), before);
        check.due("syntaxError(): the text stays", x.syntaxError(), 12);
        check.due("type(42)", x.type('*'), 13);
        check.due("readLines() of the completed list", x.readLines(), 2);
        check.due("undo()", x.undo(), 1);
        check.due("digest() after undo", x.digest(), before);
    }

    private static void readingStopsAtAPage() {
        SqueezedLines x = Make.withPages(2);
        Make.typeAll(x, "1:0=1*;2:0=1*;1:1=1*");
        check.due("readLines()", x.readLines(), 1);
        check.due("peek(1, 0, 0)", x.peek(1, 0, 0), 1);
        check.due("peek(1, 1, 0): behind the missing page", x.peek(1, 1, 0), 0);
        check.due("clearText(): the text is empty", x.clearText(), 0);
        Make.typeAll(x, "9:0=1*;1:1=1*");
        long before = x.digest();
        check.due("readLines(): no entry", x.readLines(), 0);
        check.due("digest()", x.digest(), before);
        check.due("clearText(): the text is empty", x.clearText(), 0);
        check.due("undo(): a state was saved though", x.undo(), 3);
        check.due("digest()", x.digest(), before);
    }

    private static void readingStopsAtTheBound() {
        SqueezedLines x = Make.withPages(1);
        x.setBound(20);
        Make.typeAll(x, "0:0=1*;0:1=1*;0:2=1*;0:0=0*");
        check.due("readLines()", x.readLines(), 2);
        check.due("count(1)", x.count(1), 17);
        check.due("peek(0, 0, 0): behind the entry that is too much", x.peek(0, 0, 0), 1);
        check.due("clearText()", x.clearText(), 0);
        Make.typeAll(x, "0:0=0*;0:2=1*;0:1=9999,1,2,3,4,5,6,7");
        check.due("readLines(): the first makes room for the second", x.readLines(), 3);
        check.due("count(1)", x.count(1), 17);
        SqueezedLines y = Make.withPages(1);
        Make.rawLines(y, 0, 0, 2);
        y.setBound(20);
        Make.typeAll(y, "0:0=5*;0:1=0*;0:0=6*;0:3=6*");
        check.due("readLines() above the bound", y.readLines(), 3);
        check.due("count(1)", y.count(1), 17);
    }

    private static void readingIsOneState() {
        SqueezedLines x = Make.withPages(1);
        long before = x.digest();
        Make.typeAll(x, "0:0=1*;0:1=2*;0:2=3*;0:3=4*");
        check.due("readLines()", x.readLines(), 4);
        check.due("undo()", x.undo(), 1);
        check.due("digest() after undo", x.digest(), before);
        check.due("clearText(): the text is not of the state", x.clearText(), 0);
        Make.typeAll(x, "0:0=0*");
        check.due("readLines() that changes no line", x.readLines(), 1);
        check.due("undo() of it", x.undo(), 1);
    }
}
