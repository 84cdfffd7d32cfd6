/** Promises 13 to 19. */
public final class AskingTest {
    private static final Check check = new Check("AskingTest");
    private static final int[] OUTSIDE = {-1, 8, 9, 10, 100, Integer.MIN_VALUE, Integer.MAX_VALUE};

    public static void main(String[] args) {
        counts();
        peeks();
        pages();
        lineNumbers();
        formsOfAllLines();
        hints();
        equals();
        askingChangesNothing();
        check.end();
    }

    /** Page 0: slot 0, the lines 1, 3 and 5 beside; page 1: slot 8 after four raw lines; page 2: zeros. */
    private static SqueezedLines example() {
        SqueezedLines x = Make.withPages(3);
        x.fill(0, 1, 40);
        x.write(0, 3, 2, 12);
        x.write(0, 5, 7, 255);
        Make.rawLines(x, 1, 4, 7);
        return x;
    }

    private static void counts() {
        SqueezedLines x = example();
        x.look(0, 0, 0);
        x.look(0, 0, 1);
        x.look(1, 0, 1);
        x.setBound(400);
        x.setRoom(4);
        long[] wanted = {3, 25 + 65 + 1, 400, 4, 3, 1, 2, 5, 1};
        for (int what = 0; what < wanted.length; what++) {
            check.due("count(" + what + ")", x.count(what), wanted[what]);
        }
        int[] wrong = {-1, 9, Integer.MIN_VALUE, Integer.MAX_VALUE};
        for (int what : wrong) {
            check.due("count(" + what + ")", x.count(what), -2);
        }
    }

    private static void peeks() {
        SqueezedLines x = example();
        long before = x.digest();
        check.due("peek(0, 3, 2)", x.peek(0, 3, 2), 12);
        check.due("peek(0, 5, 7)", x.peek(0, 5, 7), 255);
        check.due("peek(0, 1, 0)", x.peek(0, 1, 0), 40);
        check.due("peek(1, 7, 0)", x.peek(1, 7, 0), 1000);
        check.due("peek(2, 7, 7)", x.peek(2, 7, 7), 0);
        for (int i : OUTSIDE) {
            check.due("peek(" + i + ", 0, 0)", x.peek(i, 0, 0), -1);
            check.due("peek(0, " + i + ", 0)", x.peek(0, i, 0), -1);
            check.due("peek(0, 0, " + i + ")", x.peek(0, 0, i), -1);
        }
        check.due("peek(3, 0, 0)", x.peek(3, 0, 0), -1);
        check.due("digest(): a peek is no look", x.digest(), before);
    }

    private static void pages() {
        SqueezedLines x = example();
        // Page 0 holds 5 zero, 1 same, 1 near, 1 small: with slot 0 25, slot 1 1+8+16, slot 3 1+24+8, slot 4 33.
        int[][] wanted = {{0, 25, 2 + 8 + 32, 0, 25}, {8, 65, 0, 8, 65}, {0, 1, 0, 0, 1}};
        for (int page = 0; page < 3; page++) {
            for (int what = 0; what < 5; what++) {
                check.due("page(" + page + ", " + what + ")", x.page(page, what), wanted[page][what]);
            }
        }
        x.fill(1, 4, 0);
        check.due("page(1, 3): three raw lines may be beside", x.page(1, 3), 0);
        check.due("page(1, 4)", x.page(1, 4), 25);
        check.due("page(1, 0)", x.page(1, 0), 8);
        check.due("page(1, 1)", x.page(1, 1), 65);
        int[] wrong = {-1, 5, Integer.MIN_VALUE, Integer.MAX_VALUE};
        for (int what : wrong) {
            check.due("page(0, " + what + ")", x.page(0, what), -2);
            check.due("page(3, " + what + "): NO_SUCH first", x.page(3, what), -1);
        }
        for (int page : OUTSIDE) {
            check.due("page(" + page + ", 0)", x.page(page, 0), -1);
        }
    }

    private static void lineNumbers() {
        SqueezedLines x = example();
        x.add(0, 3, 100);
        int[][] places = {{0, 0}, {0, 1}, {0, 3}, {0, 5}, {1, 4}, {1, 3}};
        int[][] wanted = {{0, 0, 0, 0, 0}, {1, 1, 1, 40, 40}, {2, 3, 1, 100, 112}, {3, 4, 1, 0, 255},
            {4, 8, 0, 0, 1000}, {0, 0, 0, 0, 0}};
        for (int i = 0; i < places.length; i++) {
            for (int what = 0; what < 5; what++) {
                check.due("line(" + places[i][0] + ", " + places[i][1] + ", " + what + ")",
                        x.line(places[i][0], places[i][1], what), wanted[i][what]);
            }
        }
        x.write(0, 6, 0, 3);
        x.write(0, 6, 7, 9);
        check.due("line(0, 6, 4): the last word", x.line(0, 6, 4), 9);
        x.fill(0, 6, 50);
        x.write(0, 6, 0, 60);
        check.due("line(0, 6, 4): the first word", x.line(0, 6, 4), 60);
        x.write(0, 6, 7, 20);
        check.due("line(0, 6, 3): the last word", x.line(0, 6, 3), 20);
        int[] wrong = {-1, 5, Integer.MIN_VALUE, Integer.MAX_VALUE};
        for (int what : wrong) {
            check.due("line(0, 0, " + what + ")", x.line(0, 0, what), -2);
            check.due("line(0, 8, " + what + "): NO_SUCH first", x.line(0, 8, what), -1);
        }
        for (int i : OUTSIDE) {
            check.due("line(" + i + ", 0, 0)", x.line(i, 0, 0), -1);
            check.due("line(0, " + i + ", 0)", x.line(0, i, 0), -1);
        }
        check.due("line(3, 0, 0)", x.line(3, 0, 0), -1);
    }

    private static void formsOfAllLines() {
        SqueezedLines x = example();
        int[] wanted = {8 * 3 - 7, 1, 1, 1, 4};
        for (int form = 0; form < 5; form++) {
            check.due("lines(" + form + ")", x.lines(form), wanted[form]);
        }
        x.free(1);
        check.due("lines(4): a freed page has none", x.lines(4), 0);
        check.due("lines(0)", x.lines(0), 13);
        int[] wrong = {-1, 5, Integer.MIN_VALUE, Integer.MAX_VALUE};
        for (int form : wrong) {
            check.due("lines(" + form + ")", x.lines(form), -2);
        }
    }

    private static void hints() {
        SqueezedLines x = Make.withPages(10);
        Make.rawLines(x, 9, 6, 7);
        check.due("hint(1, 0): empty", x.hint(1, 0), -6);
        x.look(9, 0, 0);
        check.due("hint(1, 0)", x.hint(1, 0), 9);
        check.due("hint(1, 1)", x.hint(1, 1), 64 + 128);
        x.look(7, 0, 0);
        check.due("hint(3, 0)", x.hint(3, 0), 7);
        check.due("hint(3, 1)", x.hint(3, 1), 0);
        Make.rawLines(x, 9, 0, 0);
        check.due("hint(1, 1): a change is not told", x.hint(1, 1), 64 + 128);
        int[] wrong = {-1, 4, Integer.MIN_VALUE, Integer.MAX_VALUE};
        for (int i : wrong) {
            check.due("hint(" + i + ", 0)", x.hint(i, 0), -1);
            check.due("hint(" + i + ", 2): NO_SUCH first", x.hint(i, 2), -1);
        }
        int[] wrongWhat = {-1, 2, Integer.MIN_VALUE, Integer.MAX_VALUE};
        for (int what : wrongWhat) {
            check.due("hint(1, " + what + ")", x.hint(1, what), -2);
            check.due("hint(0, " + what + "): BAD_VALUE before NONE", x.hint(0, what), -2);
        }
    }

    private static void equals() {
        SqueezedLines x = example();
        check.due("equalLines(0, 1)", x.equalLines(0, 1), 1);
        check.due("equalLines(1, 4)", x.equalLines(1, 4), 4);
        check.due("equalLines(2, 0): zeros", x.equalLines(2, 0), 17);
        x.write(1, 5, 7, 1);
        check.due("equalLines(1, 4): one differs in its last word", x.equalLines(1, 4), 3);
        x.write(1, 6, 0, 1);
        check.due("equalLines(1, 4): one differs in its first word", x.equalLines(1, 4), 2);
        x.copy(1, 4, 2, 7);
        check.due("equalLines(1, 4): of all pages", x.equalLines(1, 4), 3);
        x.free(1);
        check.due("equalLines(2, 7): a freed page has none", x.equalLines(2, 7), 1);
        for (int i : OUTSIDE) {
            check.due("equalLines(" + i + ", 0)", x.equalLines(i, 0), -1);
            check.due("equalLines(0, " + i + ")", x.equalLines(0, i), -1);
        }
        check.due("equalLines(1, 0): freed", x.equalLines(1, 0), -1);
    }

    private static void askingChangesNothing() {
        SqueezedLines x = example();
        long before = x.digest();
        x.count(1);
        x.peek(0, 3, 0);
        x.page(1, 3);
        x.line(0, 3, 0);
        x.lines(2);
        x.hint(0, 0);
        x.equalLines(0, 0);
        check.due("digest() after asking", x.digest(), before);
        check.due("undo() after asking", x.undo(), 5);
        check.due("peek(1, 7, 0): the last change is undone, no other", x.peek(1, 7, 0), 0);
        check.due("peek(1, 6, 0)", x.peek(1, 6, 0), 1000);
    }
}
