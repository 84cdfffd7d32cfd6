/** Promises 1 to 3. */
public final class SettingsTest {
    private static final Check check = new Check("SettingsTest");

    public static void main(String[] args) {
        newObject();
        constants();
        roomRange();
        lowerRoomLaysAnew();
        roomWithinBound();
        roomAboveBoundThatDoesNotGrow();
        roomKeepsPagesThatFit();
        roomIsUndone();
        boundRange();
        boundBelowSum();
        check.end();
    }

    private static void newObject() {
        SqueezedLines x = new SqueezedLines();
        long[] counts = {0, 0, 300, 3, 0, 0, 0, 0, 0};
        for (int what = 0; what < counts.length; what++) {
            check.due("new: count(" + what + ")", x.count(what), counts[what]);
        }
        for (int page = 0; page < 10; page++) {
            check.due("new: page(" + page + ", 0)", x.page(page, 0), -1);
        }
        for (int form = 0; form < 5; form++) {
            check.due("new: lines(" + form + ")", x.lines(form), 0);
        }
        for (int hint = 0; hint < 4; hint++) {
            check.due("new: hint(" + hint + ", 0)", x.hint(hint, 0), -6);
            check.due("new: hint(" + hint + ", 1)", x.hint(hint, 1), -6);
        }
        check.due("new: loosest()", x.loosest(), -6);
        check.due("new: rawPagesLeft()", x.rawPagesLeft(), 4);
        check.due("new: syntaxError()", x.syntaxError(), 0);
        check.due("new: clearText()", x.clearText(), 0);
        check.due("new: undo()", x.undo(), -3);
    }

    private static void constants() {
        check.due("NO_SUCH", SqueezedLines.NO_SUCH, -1);
        check.due("BAD_VALUE", SqueezedLines.BAD_VALUE, -2);
        check.due("NOT_POSSIBLE", SqueezedLines.NOT_POSSIBLE, -3);
        check.due("LIMIT", SqueezedLines.LIMIT, -4);
        check.due("BAD_TEXT", SqueezedLines.BAD_TEXT, -5);
        check.due("NONE", SqueezedLines.NONE, -6);
    }

    private static void roomRange() {
        SqueezedLines x = new SqueezedLines();
        check.due("setRoom(-1)", x.setRoom(-1), -2);
        check.due("setRoom(9)", x.setRoom(9), -2);
        check.due("setRoom(least int)", x.setRoom(Integer.MIN_VALUE), -2);
        check.due("setRoom(greatest int)", x.setRoom(Integer.MAX_VALUE), -2);
        check.due("count(3) after refusals", x.count(3), 3);
        check.due("setRoom(0)", x.setRoom(0), 3);
        check.due("setRoom(8)", x.setRoom(8), 0);
        check.due("setRoom(8) again", x.setRoom(8), 8);
        check.due("count(3)", x.count(3), 8);
    }

    private static void lowerRoomLaysAnew() {
        SqueezedLines x = Make.withPages(3);
        Make.rawLines(x, 0, 0, 2);
        Make.rawLines(x, 1, 0, 1);
        check.due("count(1) before", x.count(1), 25 + 17 + 1);
        check.due("setRoom(2)", x.setRoom(2), 3);
        check.due("page(0, 0): laid anew", x.page(0, 0), 8);
        check.due("page(1, 0): as it was", x.page(1, 0), 0);
        check.due("page(2, 0): as it was", x.page(2, 0), 0);
        check.due("count(1)", x.count(1), 65 + 17 + 1);
        check.due("count(4)", x.count(4), 2);
        check.due("count(8)", x.count(8), 1);
        check.due("setRoom(3)", x.setRoom(3), 2);
        check.due("page(0, 0): a greater room lays nothing anew", x.page(0, 0), 8);
        check.due("setRoom(0)", x.setRoom(0), 3);
        check.due("page(1, 0): laid anew", x.page(1, 0), 8);
        check.due("count(8) counts only the pages that were too full", x.count(8), 2);
    }

    private static void roomWithinBound() {
        SqueezedLines x = Make.withPages(1);
        Make.rawLines(x, 0, 0, 2);
        x.setBound(64);
        long before = x.digest();
        check.due("setRoom(2) above the bound", x.setRoom(2), -4);
        check.due("setRoom(-1): BAD_VALUE, as no sum belongs to it", x.setRoom(-1), -2);
        check.due("digest() after LIMIT", x.digest(), before);
        x.setBound(65);
        check.due("setRoom(2) at the bound", x.setRoom(2), 3);
        check.due("count(1)", x.count(1), 65);
    }

    private static void roomAboveBoundThatDoesNotGrow() {
        SqueezedLines x = Make.withPages(3);
        x.setRoom(8);
        for (int page = 0; page < 3; page++) {
            Make.sameLines(x, page, 0, 7);
        }
        check.due("count(1): all lines beside", x.count(1), 195);
        x.setBound(20);
        check.due("setRoom(8): the sum stays above the bound", x.setRoom(8), 8);
        check.due("setRoom(3): the sum becomes less", x.setRoom(3), 8);
        check.due("count(1): still above the bound", x.count(1), 27);
        check.due("count(8)", x.count(8), 3);
    }

    /** Page 0 would be less if it was laid anew, but it fits; page 1 does not fit and becomes greater. */
    private static void roomKeepsPagesThatFit() {
        SqueezedLines x = Make.withPages(3);
        Make.sameLines(x, 0, 0, 1);
        Make.rawLines(x, 1, 0, 2);
        check.due("count(1)", x.count(1), 17 + 25 + 1);
        x.setBound(82);
        check.due("setRoom(2) would be 17 + 65 + 1", x.setRoom(2), -4);
        check.due("count(3) after LIMIT", x.count(3), 3);
        x.setBound(83);
        check.due("setRoom(2) at the bound", x.setRoom(2), 3);
        check.due("page(0, 0)", x.page(0, 0), 0);
        check.due("count(1)", x.count(1), 83);
    }

    private static void roomIsUndone() {
        SqueezedLines x = Make.withPages(1);
        Make.rawLines(x, 0, 0, 2);
        long before = x.digest();
        x.setRoom(1);
        check.due("undo() of setRoom", x.undo(), 4);
        check.due("digest() after undo of setRoom", x.digest(), before);
        check.due("count(3)", x.count(3), 3);
        check.due("page(0, 0)", x.page(0, 0), 0);
    }

    private static void boundRange() {
        SqueezedLines x = new SqueezedLines();
        check.due("setBound(19)", x.setBound(19), -2);
        check.due("setBound(1000)", x.setBound(1000), -2);
        check.due("setBound(least int)", x.setBound(Integer.MIN_VALUE), -2);
        check.due("setBound(greatest int)", x.setBound(Integer.MAX_VALUE), -2);
        check.due("undo(): a refused call saves nothing", x.undo(), -3);
        check.due("setBound(20)", x.setBound(20), 300);
        check.due("setBound(999)", x.setBound(999), 20);
        check.due("count(2)", x.count(2), 999);
        check.due("undo()", x.undo(), 1);
        check.due("count(2) after undo", x.count(2), 20);
    }

    private static void boundBelowSum() {
        SqueezedLines x = Make.withPages(1);
        Make.rawLines(x, 0, 0, 2);
        check.due("setBound(20) below the sum", x.setBound(20), 300);
        check.due("count(1) above the bound", x.count(1), 25);
    }
}
