/** Promises 8 to 12. */
public final class WordsTest {
    private static final Check check = new Check("WordsTest");

    public static void main(String[] args) {
        formsByWriting();
        writeErrors();
        writeWithinBound();
        fillForms();
        fillErrors();
        addForms();
        addErrors();
        copying();
        copyErrors();
        slotIsKeptUntilTooMany();
        lineThatGetsLess();
        aboveBoundThatDoesNotGrow();
        lookCosts();
        lookErrors();
        check.end();
    }

    private static void writeAll(SqueezedLines x, int line, int[] words) {
        for (int word = 0; word < 8; word++) {
            x.write(0, line, word, words[word]);
        }
    }

    private static void formsByWriting() {
        int[][] lines = {
            {0, 0, 0, 0, 0, 0, 0, 0}, {1, 1, 1, 1, 1, 1, 1, 1}, {65535, 65535, 65535, 65535, 65535, 65535, 65535, 65535},
            {0, 15, 0, 0, 0, 0, 0, 0}, {15, 15, 15, 15, 15, 15, 15, 0}, {65535, 65520, 65530, 65535, 65520, 65535, 65535, 65535},
            {0, 16, 0, 0, 0, 0, 0, 0}, {255, 0, 0, 0, 0, 0, 0, 0}, {240, 255, 239, 255, 255, 255, 255, 255},
            {0, 0, 0, 0, 0, 0, 0, 256}, {256, 240, 256, 256, 256, 256, 256, 256}, {65535, 65519, 65535, 65535, 65535, 65535, 65535, 65535},
            {256, 241, 256, 256, 256, 256, 256, 256}};
        int[] forms = {0, 1, 1, 2, 2, 2, 3, 3, 3, 4, 4, 4, 2};
        for (int i = 0; i < lines.length; i++) {
            SqueezedLines x = Make.withPages(1);
            writeAll(x, 3, lines[i]);
            check.due("line(0, 3, 0) of the words " + i, x.line(0, 3, 0), forms[i]);
            check.due("write(0, 3, 7, the same) of the words " + i, x.write(0, 3, 7, lines[i][7]), forms[i]);
            for (int word = 0; word < 8; word++) {
                check.due("peek(0, 3, " + word + ") of the words " + i, x.peek(0, 3, word), lines[i][word]);
            }
            check.due("line(0, 2, 0): the line before is as it was", x.line(0, 2, 0), 0);
            check.due("line(0, 4, 0): the line behind is as it was", x.line(0, 4, 0), 0);
        }
    }

    private static void writeErrors() {
        SqueezedLines x = Make.withPages(2);
        x.setBound(20);
        Make.rawLines(x, 0, 0, 1);
        long before = x.digest();
        int[] noPages = {2, 9, 10, -1, Integer.MIN_VALUE, Integer.MAX_VALUE};
        for (int page : noPages) {
            check.due("write(" + page + ", 0, 0, 1)", x.write(page, 0, 0, 1), -1);
        }
        int[] outside = {-1, 8, Integer.MIN_VALUE, Integer.MAX_VALUE};
        for (int i : outside) {
            check.due("write(0, " + i + ", 0, 1)", x.write(0, i, 0, 1), -1);
            check.due("write(0, 0, " + i + ", 1)", x.write(0, 0, i, 1), -1);
            check.due("write(0, 0, " + i + ", -1): NO_SUCH first", x.write(0, 0, i, -1), -1);
        }
        int[] noValues = {-1, 65536, Integer.MIN_VALUE, Integer.MAX_VALUE};
        for (int value : noValues) {
            check.due("write(0, 2, 0, " + value + "): BAD_VALUE before LIMIT", x.write(0, 2, 0, value), -2);
            check.due("write(5, 2, 0, " + value + "): NO_SUCH first", x.write(5, 2, 0, value), -1);
        }
        check.due("write(0, 2, 0, 1000)", x.write(0, 2, 0, 1000), -4);
        check.due("digest() after the refusals", x.digest(), before);
        check.due("undo()", x.undo(), 4);
        check.due("undo(): the refusals saved nothing", x.peek(0, 1, 0), 0);
    }

    private static void writeWithinBound() {
        SqueezedLines x = Make.withPages(1);
        x.setBound(25);
        Make.rawLines(x, 0, 0, 2);
        check.due("count(1) at the bound", x.count(1), 25);
        check.due("write(0, 3, 0, 1000): would be 65", x.write(0, 3, 0, 1000), -4);
        x.setBound(64);
        check.due("write(0, 3, 0, 1000) above 64", x.write(0, 3, 0, 1000), -4);
        x.setBound(65);
        check.due("write(0, 3, 0, 1000) at 65", x.write(0, 3, 0, 1000), 4);
        check.due("count(1)", x.count(1), 65);
        check.due("count(8)", x.count(8), 1);
    }

    private static void fillForms() {
        SqueezedLines x = Make.withPages(1);
        check.due("fill(0, 0, 0)", x.fill(0, 0, 0), 0);
        check.due("fill(0, 0, 1)", x.fill(0, 0, 1), 1);
        check.due("fill(0, 7, 65535)", x.fill(0, 7, 65535), 1);
        for (int word = 0; word < 8; word++) {
            check.due("peek(0, 7, " + word + ")", x.peek(0, 7, word), 65535);
            check.due("peek(0, 6, " + word + ")", x.peek(0, 6, word), 0);
        }
        check.due("fill(0, 7, 0)", x.fill(0, 7, 0), 0);
        check.due("undo()", x.undo(), 4);
        check.due("peek(0, 7, 3) after undo", x.peek(0, 7, 3), 65535);
    }

    private static void fillErrors() {
        SqueezedLines x = Make.withPages(1);
        x.setBound(20);
        Make.rawLines(x, 0, 0, 1);
        long before = x.digest();
        int[] noPages = {1, 9, 10, -1, Integer.MIN_VALUE, Integer.MAX_VALUE};
        for (int page : noPages) {
            check.due("fill(" + page + ", 0, 1)", x.fill(page, 0, 1), -1);
            check.due("fill(" + page + ", 0, -1): NO_SUCH first", x.fill(page, 0, -1), -1);
        }
        int[] noLines = {-1, 8, Integer.MIN_VALUE, Integer.MAX_VALUE};
        for (int line : noLines) {
            check.due("fill(0, " + line + ", 1)", x.fill(0, line, 1), -1);
            check.due("fill(0, " + line + ", 65536): NO_SUCH first", x.fill(0, line, 65536), -1);
        }
        int[] noValues = {-1, 65536, Integer.MIN_VALUE, Integer.MAX_VALUE};
        for (int value : noValues) {
            check.due("fill(0, 2, " + value + "): BAD_VALUE before LIMIT", x.fill(0, 2, value), -2);
        }
        check.due("fill(0, 2, 1)", x.fill(0, 2, 1), -4);
        check.due("digest() after the refusals", x.digest(), before);
        check.due("undo()", x.undo(), 3);
        check.due("undo(): the refusals saved nothing", x.peek(0, 1, 0), 0);
    }

    private static void addForms() {
        SqueezedLines x = Make.withPages(1);
        check.due("add(0, 0, 0) to zeros", x.add(0, 0, 0), 0);
        check.due("add(0, 0, 65535)", x.add(0, 0, 65535), 1);
        check.due("peek(0, 0, 7)", x.peek(0, 0, 7), 65535);
        check.due("add(0, 0, 1): around", x.add(0, 0, 1), 0);
        check.due("add(0, 0, -1): around", x.add(0, 0, -1), 1);
        check.due("peek(0, 0, 0)", x.peek(0, 0, 0), 65535);
        check.due("add(0, 0, -65535)", x.add(0, 0, -65535), 0);
        x.write(0, 1, 4, 15);
        check.due("add(0, 1, 300): near stays near", x.add(0, 1, 300), 2);
        check.due("peek(0, 1, 0)", x.peek(0, 1, 0), 300);
        check.due("peek(0, 1, 4)", x.peek(0, 1, 4), 315);
        check.due("add(0, 1, -301): some words go around", x.add(0, 1, -301), 4);
        check.due("peek(0, 1, 0)", x.peek(0, 1, 0), 65535);
        check.due("peek(0, 1, 4)", x.peek(0, 1, 4), 14);
        check.due("undo()", x.undo(), 5);
        check.due("peek(0, 1, 4) after undo", x.peek(0, 1, 4), 315);
        x.write(0, 2, 0, 200);
        check.due("add(0, 2, 55): small", x.add(0, 2, 55), 3);
        check.due("add(0, 2, 1): raw", x.add(0, 2, 1), 4);
    }

    private static void addErrors() {
        SqueezedLines x = Make.withPages(1);
        x.setBound(20);
        Make.rawLines(x, 0, 0, 1);
        long before = x.digest();
        int[] noPages = {1, 9, 10, -1, Integer.MIN_VALUE, Integer.MAX_VALUE};
        for (int page : noPages) {
            check.due("add(" + page + ", 0, 1)", x.add(page, 0, 1), -1);
            check.due("add(" + page + ", 0, 65536): NO_SUCH first", x.add(page, 0, 65536), -1);
        }
        int[] noLines = {-1, 8, Integer.MIN_VALUE, Integer.MAX_VALUE};
        for (int line : noLines) {
            check.due("add(0, " + line + ", 1)", x.add(0, line, 1), -1);
        }
        int[] noNumbers = {-65536, 65536, Integer.MIN_VALUE, Integer.MAX_VALUE};
        for (int number : noNumbers) {
            check.due("add(0, 2, " + number + "): BAD_VALUE before LIMIT", x.add(0, 2, number), -2);
        }
        check.due("add(0, 2, 1)", x.add(0, 2, 1), -4);
        check.due("add(0, 2, 0) changes no word", x.add(0, 2, 0), 0);
        check.due("undo() of it", x.undo(), 4);
        check.due("digest() after the refusals", x.digest(), before);
    }

    private static void copying() {
        SqueezedLines x = Make.withPages(2);
        for (int word = 0; word < 8; word++) {
            x.write(0, 1, word, 10 * word);
        }
        check.due("copy(0, 1, 1, 6)", x.copy(0, 1, 1, 6), 3);
        check.due("copy(0, 1, 0, 2) in the same page", x.copy(0, 1, 0, 2), 3);
        check.due("copy(0, 1, 0, 1) over itself", x.copy(0, 1, 0, 1), 3);
        for (int word = 0; word < 8; word++) {
            check.due("peek(1, 6, " + word + ")", x.peek(1, 6, word), 10 * word);
            check.due("peek(0, 2, " + word + ")", x.peek(0, 2, word), 10 * word);
            check.due("peek(0, 1, " + word + ")", x.peek(0, 1, word), 10 * word);
        }
        check.due("equalLines(0, 1)", x.equalLines(0, 1), 3);
        check.due("copy(1, 0, 1, 6): zeros", x.copy(1, 0, 1, 6), 0);
        check.due("undo()", x.undo(), 5);
        check.due("peek(1, 6, 3) after undo", x.peek(1, 6, 3), 30);
        check.due("undo() of the copy over itself", x.undo(), 4);
        check.due("undo() of the copy in the same page", x.undo(), 3);
        check.due("peek(0, 2, 3) after undo", x.peek(0, 2, 3), 0);
    }

    private static void copyErrors() {
        SqueezedLines x = Make.withPages(2);
        x.setBound(20);
        Make.rawLines(x, 0, 0, 1);
        long before = x.digest();
        int[] noPages = {2, 10, -1, Integer.MIN_VALUE, Integer.MAX_VALUE};
        for (int page : noPages) {
            check.due("copy(" + page + ", 0, 0, 0)", x.copy(page, 0, 0, 0), -1);
            check.due("copy(0, 0, " + page + ", 0)", x.copy(0, 0, page, 0), -1);
        }
        int[] noLines = {-1, 8, Integer.MIN_VALUE, Integer.MAX_VALUE};
        for (int line : noLines) {
            check.due("copy(0, " + line + ", 1, 0)", x.copy(0, line, 1, 0), -1);
            check.due("copy(0, 0, 1, " + line + "): NO_SUCH before LIMIT", x.copy(0, 0, 1, line), -1);
        }
        check.due("copy(0, 0, 1, 0)", x.copy(0, 0, 1, 0), -4);
        check.due("digest() after the refusals", x.digest(), before);
        check.due("copy(0, 0, 0, 1): no greater sum", x.copy(0, 0, 0, 1), 4);
        check.due("undo()", x.undo(), 5);
    }

    private static void slotIsKeptUntilTooMany() {
        SqueezedLines x = Make.withPages(1);
        Make.sameLines(x, 0, 0, 2);
        check.due("page(0, 0) with three beside", x.page(0, 0), 0);
        check.due("page(0, 1) though slot 1 would be less", x.page(0, 1), 25);
        check.due("count(8)", x.count(8), 0);
        x.fill(0, 3, 7);
        check.due("page(0, 0) with a fourth", x.page(0, 0), 1);
        check.due("page(0, 1)", x.page(0, 1), 9);
        check.due("count(8)", x.count(8), 1);
        x.undo();
        check.due("count(8) after undo", x.count(8), 0);
        check.due("page(0, 0) after undo", x.page(0, 0), 0);
    }

    private static void lineThatGetsLess() {
        SqueezedLines x = Make.withPages(1);
        Make.rawLines(x, 0, 0, 3);
        check.due("page(0, 0)", x.page(0, 0), 8);
        x.fill(0, 0, 0);
        x.fill(0, 1, 0);
        x.fill(0, 2, 0);
        x.fill(0, 3, 0);
        check.due("page(0, 0) is kept", x.page(0, 0), 8);
        check.due("page(0, 1)", x.page(0, 1), 65);
        check.due("page(0, 3)", x.page(0, 3), 0);
        check.due("page(0, 4)", x.page(0, 4), 1);
    }

    private static void aboveBoundThatDoesNotGrow() {
        SqueezedLines x = Make.withPages(1);
        Make.rawLines(x, 0, 0, 2);
        x.setBound(20);
        check.due("write(0, 0, 1, 5): the sum stays above the bound", x.write(0, 0, 1, 5), 4);
        check.due("fill(0, 0, 3): the same sum", x.fill(0, 0, 3), 1);
        check.due("add(0, 1, 9): the same sum", x.add(0, 1, 9), 4);
        check.due("copy(0, 1, 0, 0): the same sum", x.copy(0, 1, 0, 0), 4);
        check.due("fill(0, 3, 3): a greater sum", x.fill(0, 3, 3), -4);
        check.due("fill(0, 0, 0): a lesser sum", x.fill(0, 0, 0), 0);
        check.due("count(1)", x.count(1), 17);
        check.due("fill(0, 0, 3): 25 again", x.fill(0, 0, 3), -4);
    }

    private static void lookCosts() {
        SqueezedLines x = Make.withPages(5);
        x.write(0, 2, 3, 77);
        check.due("look(0, 2, 3)", x.look(0, 2, 3), 77);
        check.due("count(6): the hint was empty", x.count(6), 1);
        check.due("look(0, 2, 4)", x.look(0, 2, 4), 0);
        check.due("count(5): a hit", x.count(5), 1);
        x.look(0, 0, 0);
        check.due("count(5): another line, not beside, as the hint tells", x.count(5), 2);
        x.look(4, 0, 0);
        check.due("count(6): another page with the same hint", x.count(6), 2);
        x.look(0, 0, 0);
        check.due("count(6): the page before", x.count(6), 3);
        x.write(0, 5, 0, 300);
        x.look(0, 4, 0);
        check.due("count(5): what the hint tells of this line is right", x.count(5), 3);
        check.due("hint(0, 1): a hit leaves it as it was", x.hint(0, 1), 4);
        x.look(0, 5, 0);
        check.due("count(6): what the hint tells of this line is wrong", x.count(6), 4);
        check.due("hint(0, 1): made anew for all lines", x.hint(0, 1), 4 + 32);
        x.fill(0, 5, 0);
        x.look(0, 5, 0);
        check.due("count(6): no longer beside", x.count(6), 5);
        check.due("hint(0, 1)", x.hint(0, 1), 4);
        check.due("count(7)", x.count(7), 3 + 2 * 5);
        check.due("undo() of a look", x.undo(), 5);
        check.due("count(6) after undo", x.count(6), 4);
        check.due("count(7) after undo", x.count(7), 3 + 2 * 4);
        check.due("hint(0, 1) after undo", x.hint(0, 1), 36);
        for (int page = 1; page < 4; page++) {
            x.look(page, 0, 0);
            check.due("hint(" + page + ", 0)", x.hint(page, 0), page);
        }
    }

    private static void lookErrors() {
        SqueezedLines x = Make.withPages(1);
        long before = x.digest();
        int[] noPages = {1, 9, 10, -1, Integer.MIN_VALUE, Integer.MAX_VALUE};
        for (int page : noPages) {
            check.due("look(" + page + ", 0, 0)", x.look(page, 0, 0), -1);
        }
        int[] outside = {-1, 8, Integer.MIN_VALUE, Integer.MAX_VALUE};
        for (int i : outside) {
            check.due("look(0, " + i + ", 0)", x.look(0, i, 0), -1);
            check.due("look(0, 0, " + i + ")", x.look(0, 0, i), -1);
        }
        check.due("digest() after the refusals", x.digest(), before);
        check.due("undo(): the refusals saved nothing", x.undo(), 0);
        check.due("count(0)", x.count(0), 0);
    }
}
