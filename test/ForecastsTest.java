/** Promises 20 to 23. */
public final class ForecastsTest {
    private static final Check check = new Check("ForecastsTest");

    public static void main(String[] args) {
        sumIfWritten();
        ifWrittenTellsOfPagesLaidAnew();
        ifWrittenTellsOfTheOtherWords();
        ifWrittenWithAnotherRoom();
        ifWrittenErrors();
        sumIfRoom();
        loosestPage();
        rawPages();
        forecastsChangeNothing();
        check.end();
    }

    private static void sumIfWritten() {
        SqueezedLines x = Make.withPages(2);
        check.due("ifWritten(0, 0, 0, 0): the same", x.ifWritten(0, 0, 0, 0), 2);
        check.due("ifWritten(0, 0, 0, 1)", x.ifWritten(0, 0, 0, 1), 10);
        check.due("ifWritten(1, 7, 7, 65535)", x.ifWritten(1, 7, 7, 65535), 10);
        Make.rawLines(x, 0, 0, 0);
        check.due("ifWritten(0, 0, 0, 0): less", x.ifWritten(0, 0, 0, 0), 2);
        check.due("ifWritten(0, 1, 0, 9)", x.ifWritten(0, 1, 0, 9), 18);
        x.setBound(20);
        x.write(0, 1, 0, 9);
        check.due("ifWritten(0, 2, 0, 9): too great", x.ifWritten(0, 2, 0, 9), 26);
        check.due("write(0, 2, 0, 9)", x.write(0, 2, 0, 9), -4);
    }

    private static void ifWrittenTellsOfPagesLaidAnew() {
        SqueezedLines x = Make.withPages(2);
        for (int line = 0; line < 3; line++) {
            x.write(0, line, 0, 9);
        }
        check.due("count(1): three near lines beside", x.count(1), 26);
        // A fourth one: slot 3 is 1+24, which is less than slot 0 with four lines beside would be.
        check.due("ifWritten(0, 3, 0, 9): laid anew", x.ifWritten(0, 3, 0, 9), 26);
        check.due("ifWritten(0, 3, 0, 900): slot 3 and one beside", x.ifWritten(0, 3, 0, 900), 34);
        check.due("write(0, 3, 0, 900)", x.write(0, 3, 0, 900), 4);
        check.due("count(1)", x.count(1), 34);
    }

    private static void ifWrittenTellsOfTheOtherWords() {
        SqueezedLines x = Make.withPages(1);
        for (int line = 0; line < 4; line++) {
            x.fill(0, line, 9);
        }
        check.due("count(1): slot 1", x.count(1), 9);
        x.fill(0, 7, 0);
        check.due("ifWritten(0, 0, 0, 9): the same words", x.ifWritten(0, 0, 0, 9), 9);
        check.due("ifWritten(0, 0, 0, 10): near", x.ifWritten(0, 0, 0, 10), 17);
        check.due("ifWritten(0, 7, 0, 9): near", x.ifWritten(0, 7, 0, 9), 17);
        check.due("ifWritten(0, 0, 0, 9): the words of line 0 again", x.ifWritten(0, 0, 0, 9), 9);
    }

    private static void ifWrittenWithAnotherRoom() {
        SqueezedLines x = Make.withPages(2);
        x.setRoom(0);
        check.due("ifWritten(0, 0, 0, 1) with room 0", x.ifWritten(0, 0, 0, 1), 26);
        check.due("write(0, 0, 0, 1)", x.write(0, 0, 0, 1), 2);
        check.due("count(1)", x.count(1), 26);
        x.setRoom(4);
        Make.rawLines(x, 1, 0, 2);
        check.due("ifWritten(1, 3, 0, 1000) with room 4", x.ifWritten(1, 3, 0, 1000), 25 + 33);
        check.due("write(1, 3, 0, 1000)", x.write(1, 3, 0, 1000), 4);
        check.due("ifWritten(1, 4, 0, 1000) with room 4", x.ifWritten(1, 4, 0, 1000), 25 + 65);
        x.setRoom(8);
        x.layAnew(1);
        x.write(1, 4, 0, 1000);
        x.setRoom(6);
        check.due("ifWritten(1, 5, 0, 9) with room 6", x.ifWritten(1, 5, 0, 9), 25 + 49);
        x.write(1, 5, 0, 9);
        check.due("ifWritten(1, 6, 0, 9) with room 6: slot 3 and five beside", x.ifWritten(1, 6, 0, 9), 25 + 65);
    }

    private static void ifWrittenErrors() {
        SqueezedLines x = Make.withPages(1);
        int[] noPages = {1, 9, 10, -1, Integer.MIN_VALUE, Integer.MAX_VALUE};
        for (int page : noPages) {
            check.due("ifWritten(" + page + ", 0, 0, 1)", x.ifWritten(page, 0, 0, 1), -1);
        }
        int[] outside = {-1, 8, Integer.MIN_VALUE, Integer.MAX_VALUE};
        for (int i : outside) {
            check.due("ifWritten(0, " + i + ", 0, 1)", x.ifWritten(0, i, 0, 1), -1);
            check.due("ifWritten(0, 0, " + i + ", 1)", x.ifWritten(0, 0, i, 1), -1);
            check.due("ifWritten(0, 0, " + i + ", -1): NO_SUCH first", x.ifWritten(0, 0, i, -1), -1);
        }
        int[] noValues = {-1, 65536, Integer.MIN_VALUE, Integer.MAX_VALUE};
        for (int value : noValues) {
            check.due("ifWritten(0, 0, 0, " + value + ")", x.ifWritten(0, 0, 0, value), -2);
        }
    }

    private static void sumIfRoom() {
        SqueezedLines x = Make.withLoosePage();
        x.newPage();
        Make.rawLines(x, 1, 0, 1);
        x.newPage();
        Make.sameLines(x, 2, 0, 2);
        check.due("count(1)", x.count(1), 65 + 17 + 25);
        // Page 0: 1; page 1: 17, with room 0 or 1 65; page 2: 9 with slot 1, whatever the room.
        int[] wanted = {75, 75, 27, 27, 27, 27, 27, 27, 27};
        for (int room = 0; room <= 8; room++) {
            check.due("ifRoom(" + room + ")", x.ifRoom(room), wanted[room]);
        }
        x.setBound(20);
        check.due("ifRoom(0): also above the bound", x.ifRoom(0), 75);
        int[] wrong = {-1, 9, Integer.MIN_VALUE, Integer.MAX_VALUE};
        for (int room : wrong) {
            check.due("ifRoom(" + room + ")", x.ifRoom(room), -2);
        }
    }

    private static void loosestPage() {
        SqueezedLines x = Make.withPages(4);
        check.due("loosest(): none becomes less", x.loosest(), -6);
        Make.sameLines(x, 3, 0, 2);
        check.due("loosest(): 16 units", x.loosest(), 3);
        Make.sameLines(x, 1, 0, 1);
        check.due("loosest(): 8 units are fewer", x.loosest(), 3);
        Make.sameLines(x, 1, 2, 2);
        check.due("loosest(): of two the lowest", x.loosest(), 1);
        check.due("layAnew(1)", x.layAnew(1), 0);
        check.due("loosest(): the other one", x.loosest(), 3);
        check.due("layAnew(3)", x.layAnew(3), 0);
        check.due("loosest(): none again", x.loosest(), -6);
        check.due("free(3)", x.free(3), 9);
        check.due("loosest() without this page", x.loosest(), -6);
        x.fill(2, 0, 7);
        check.due("loosest(): slot 1 instead of one line beside wins nothing", x.loosest(), -6);
        Make.sameLines(x, 0, 0, 1);
        check.due("loosest(): page 0", x.loosest(), 0);
        SqueezedLines y = Make.withPages(1);
        Make.rawLines(y, 0, 0, 3);
        check.due("loosest(): four raw lines with room 3", y.loosest(), -6);
        y.setRoom(4);
        check.due("loosest(): four raw lines with room 4", y.loosest(), 0);
        Make.rawLines(y, 0, 4, 4);
        check.due("loosest(): five raw lines with room 4", y.loosest(), -6);
    }

    private static void rawPages() {
        SqueezedLines x = new SqueezedLines();
        check.due("rawPagesLeft() of 300", x.rawPagesLeft(), 4);
        x.setBound(260);
        check.due("rawPagesLeft() of 260", x.rawPagesLeft(), 4);
        x.newPage();
        check.due("rawPagesLeft() of 259", x.rawPagesLeft(), 3);
        x.setBound(66);
        check.due("rawPagesLeft() of 65", x.rawPagesLeft(), 1);
        x.setBound(65);
        check.due("rawPagesLeft() of 64", x.rawPagesLeft(), 0);
        Make.rawLines(x, 0, 0, 2);
        x.newPage();
        Make.rawLines(x, 1, 0, 2);
        x.setBound(20);
        check.due("rawPagesLeft() above the bound", x.rawPagesLeft(), 0);
        x = Make.withPages(10);
        Make.rawLines(x, 0, 0, 7);
        Make.rawLines(x, 1, 0, 7);
        x.setBound(20);
        check.due("rawPagesLeft() 118 above the bound", x.rawPagesLeft(), 0);
        x.setBound(999);
        check.due("rawPagesLeft() of 861, though there are 10 pages", x.rawPagesLeft(), 13);
    }

    private static void forecastsChangeNothing() {
        SqueezedLines x = Make.withPages(1);
        Make.rawLines(x, 0, 0, 2);
        long before = x.digest();
        x.ifWritten(0, 3, 0, 900);
        x.ifRoom(0);
        x.loosest();
        x.rawPagesLeft();
        check.due("digest() after forecasts", x.digest(), before);
        check.due("page(0, 2) after forecasts", x.page(0, 2), 7);
        check.due("undo() after forecasts", x.undo(), 3);
        check.due("peek(0, 2, 0)", x.peek(0, 2, 0), 0);
    }
}
