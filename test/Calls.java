import java.util.ArrayList;
import java.util.List;

/** Tables of calls: those that are undoable and those that are not, and each error code of each method. */
final class Calls {
    record Named(String name, Edges.Call call) {
    }

    record Refused(String name, Edges.Making making, Edges.Call call, int code) {
    }

    private Calls() {
    }

    /** Carried out on Make.lived(); among them calls that leave everything as it is. */
    static List<Named> undoable() {
        return List.of(
                new Named("setRoom(0)", x -> x.setRoom(0)),
                new Named("setRoom(3)", x -> x.setRoom(3)),
                new Named("setRoom(8)", x -> x.setRoom(8)),
                new Named("setBound(20)", x -> x.setBound(20)),
                new Named("setBound(300)", x -> x.setBound(300)),
                new Named("setBound(999)", x -> x.setBound(999)),
                new Named("newPage()", SqueezedLines::newPage),
                new Named("free(0)", x -> x.free(0)),
                new Named("free(1)", x -> x.free(1)),
                new Named("free(4)", x -> x.free(4)),
                new Named("layAnew(0)", x -> x.layAnew(0)),
                new Named("layAnew(1)", x -> x.layAnew(1)),
                new Named("layAllAnew()", SqueezedLines::layAllAnew),
                new Named("write(0, 0, 0, 1000)", x -> x.write(0, 0, 0, 1000)),
                new Named("write(0, 3, 0, 9)", x -> x.write(0, 3, 0, 9)),
                new Named("fill(0, 7, 65535)", x -> x.fill(0, 7, 65535)),
                new Named("fill(1, 0, 0)", x -> x.fill(1, 0, 0)),
                new Named("add(0, 1, -65535)", x -> x.add(0, 1, -65535)),
                new Named("add(2, 0, 0)", x -> x.add(2, 0, 0)),
                new Named("copy(1, 3, 2, 0)", x -> x.copy(1, 3, 2, 0)),
                new Named("copy(0, 1, 0, 1)", x -> x.copy(0, 1, 0, 1)),
                new Named("look(0, 0, 0)", x -> x.look(0, 0, 0)),
                new Named("look(4, 7, 7)", x -> x.look(4, 7, 7)),
                new Named("readLines()", SqueezedLines::readLines),
                new Named("readLines() of no entry", x -> {
                    x.clearText();
                    Make.typeAll(x, "3:0=9*");
                    return x.readLines();
                }));
    }

    static List<Named> asking() {
        return List.of(
                new Named("count(1)", x -> x.count(1)),
                new Named("peek(0, 1, 0)", x -> x.peek(0, 1, 0)),
                new Named("page(1, 3)", x -> x.page(1, 3)),
                new Named("page(0, 4)", x -> x.page(0, 4)),
                new Named("line(0, 1, 2)", x -> x.line(0, 1, 2)),
                new Named("lines(0)", x -> x.lines(0)),
                new Named("hint(0, 1)", x -> x.hint(0, 1)),
                new Named("hint(2, 1)", x -> x.hint(2, 1)),
                new Named("equalLines(0, 0)", x -> x.equalLines(0, 0)),
                new Named("ifWritten(0, 0, 0, 1000)", x -> x.ifWritten(0, 0, 0, 1000)),
                new Named("ifRoom(0)", x -> x.ifRoom(0)),
                new Named("ifRoom(8)", x -> x.ifRoom(8)),
                new Named("loosest()", SqueezedLines::loosest),
                new Named("rawPagesLeft()", SqueezedLines::rawPagesLeft),
                new Named("syntaxError()", SqueezedLines::syntaxError),
                new Named("digest()", SqueezedLines::digest));
    }

    static List<Named> notUndoable() {
        List<Named> all = new ArrayList<>(asking());
        all.add(new Named("type(59)", x -> x.type(';')));
        all.add(new Named("clearText()", SqueezedLines::clearText));
        return all;
    }

    /** The sum of all sizes is 92, and so is the bound; page 3 is missing; six states are saved; there is a text. */
    private static SqueezedLines livedAtBound() {
        SqueezedLines x = Make.lived();
        x.setBound(x.count(1));
        return x;
    }

    private static SqueezedLines livedWithFullText() {
        SqueezedLines x = Make.lived();
        Make.typeAll(x, "0".repeat(80 - 13));
        return x;
    }

    private static SqueezedLines livedWithBadText() {
        SqueezedLines x = Make.lived();
        x.type(';');
        return x;
    }

    private static SqueezedLines livedWithoutSavedStates() {
        SqueezedLines x = Make.lived();
        for (int i = 0; i < 6; i++) {
            x.undo();
        }
        return x;
    }

    /** Each error code of each method, once for each reason that the document names. */
    static List<Refused> refused() {
        List<Refused> all = new ArrayList<>();
        all.addAll(refusedSettingsAndPages());
        all.addAll(refusedWords());
        all.addAll(refusedAsking());
        all.addAll(List.of(
                new Refused("type(32)", Make::lived, x -> x.type(32), Edges.BAD_VALUE),
                new Refused("type(127)", Make::lived, x -> x.type(127), Edges.BAD_VALUE),
                new Refused("type(48) with 80 characters", Calls::livedWithFullText, x -> x.type('0'), Edges.LIMIT),
                new Refused("readLines() of no line list", Calls::livedWithBadText, SqueezedLines::readLines, Edges.BAD_TEXT),
                new Refused("readLines() of the empty text", Make::atBound, SqueezedLines::readLines, Edges.BAD_TEXT),
                new Refused("undo() of a new object", SqueezedLines::new, SqueezedLines::undo, Edges.NOT_POSSIBLE),
                new Refused("undo() after all others", Calls::livedWithoutSavedStates, SqueezedLines::undo, Edges.NOT_POSSIBLE)));
        return all;
    }

    private static List<Refused> refusedSettingsAndPages() {
        return List.of(
                new Refused("setRoom(-1)", Make::lived, x -> x.setRoom(-1), Edges.BAD_VALUE),
                new Refused("setRoom(9)", Make::lived, x -> x.setRoom(9), Edges.BAD_VALUE),
                new Refused("setRoom(0) at the bound", Calls::livedAtBound, x -> x.setRoom(0), Edges.LIMIT),
                new Refused("setBound(19)", Make::lived, x -> x.setBound(19), Edges.BAD_VALUE),
                new Refused("setBound(1000)", Make::lived, x -> x.setBound(1000), Edges.BAD_VALUE),
                new Refused("newPage() with ten pages", () -> Make.withPages(10), SqueezedLines::newPage, Edges.LIMIT),
                new Refused("newPage() at the bound", Calls::livedAtBound, SqueezedLines::newPage, Edges.LIMIT),
                new Refused("free(3)", Make::lived, x -> x.free(3), Edges.NO_SUCH),
                new Refused("layAnew(3)", Make::lived, x -> x.layAnew(3), Edges.NO_SUCH));
    }

    private static List<Refused> refusedWords() {
        return List.of(
                new Refused("write(3, 0, 0, 1)", Make::lived, x -> x.write(3, 0, 0, 1), Edges.NO_SUCH),
                new Refused("write(0, 8, 0, 1)", Make::lived, x -> x.write(0, 8, 0, 1), Edges.NO_SUCH),
                new Refused("write(0, 0, 8, 1)", Make::lived, x -> x.write(0, 0, 8, 1), Edges.NO_SUCH),
                new Refused("write(0, 0, 0, 65536)", Make::lived, x -> x.write(0, 0, 0, 65536), Edges.BAD_VALUE),
                new Refused("write(0, 0, 0, -1)", Make::lived, x -> x.write(0, 0, 0, -1), Edges.BAD_VALUE),
                new Refused("write(2, 0, 0, 1) at the bound", Calls::livedAtBound, x -> x.write(2, 0, 0, 1), Edges.LIMIT),
                new Refused("fill(3, 0, 1)", Make::lived, x -> x.fill(3, 0, 1), Edges.NO_SUCH),
                new Refused("fill(0, 8, 1)", Make::lived, x -> x.fill(0, 8, 1), Edges.NO_SUCH),
                new Refused("fill(0, 0, 65536)", Make::lived, x -> x.fill(0, 0, 65536), Edges.BAD_VALUE),
                new Refused("fill(0, 0, -1)", Make::lived, x -> x.fill(0, 0, -1), Edges.BAD_VALUE),
                new Refused("fill(2, 0, 1) at the bound", Calls::livedAtBound, x -> x.fill(2, 0, 1), Edges.LIMIT),
                new Refused("add(3, 0, 1)", Make::lived, x -> x.add(3, 0, 1), Edges.NO_SUCH),
                new Refused("add(0, 8, 1)", Make::lived, x -> x.add(0, 8, 1), Edges.NO_SUCH),
                new Refused("add(0, 0, 65536)", Make::lived, x -> x.add(0, 0, 65536), Edges.BAD_VALUE),
                new Refused("add(0, 0, -65536)", Make::lived, x -> x.add(0, 0, -65536), Edges.BAD_VALUE),
                new Refused("add(2, 0, 1) at the bound", Calls::livedAtBound, x -> x.add(2, 0, 1), Edges.LIMIT),
                new Refused("copy(3, 0, 0, 0)", Make::lived, x -> x.copy(3, 0, 0, 0), Edges.NO_SUCH),
                new Refused("copy(0, 8, 0, 0)", Make::lived, x -> x.copy(0, 8, 0, 0), Edges.NO_SUCH),
                new Refused("copy(0, 1, 3, 0)", Make::lived, x -> x.copy(0, 1, 3, 0), Edges.NO_SUCH),
                new Refused("copy(0, 1, 0, 8)", Make::lived, x -> x.copy(0, 1, 0, 8), Edges.NO_SUCH),
                new Refused("copy(0, 1, 2, 0) at the bound", Calls::livedAtBound, x -> x.copy(0, 1, 2, 0), Edges.LIMIT),
                new Refused("look(3, 0, 0)", Make::lived, x -> x.look(3, 0, 0), Edges.NO_SUCH),
                new Refused("look(0, 8, 0)", Make::lived, x -> x.look(0, 8, 0), Edges.NO_SUCH),
                new Refused("look(0, 0, 8)", Make::lived, x -> x.look(0, 0, 8), Edges.NO_SUCH));
    }

    private static List<Refused> refusedAsking() {
        return List.of(
                new Refused("count(9)", Make::lived, x -> x.count(9), Edges.BAD_VALUE),
                new Refused("count(-1)", Make::lived, x -> x.count(-1), Edges.BAD_VALUE),
                new Refused("peek(3, 0, 0)", Make::lived, x -> x.peek(3, 0, 0), Edges.NO_SUCH),
                new Refused("peek(0, 8, 0)", Make::lived, x -> x.peek(0, 8, 0), Edges.NO_SUCH),
                new Refused("peek(0, 0, 8)", Make::lived, x -> x.peek(0, 0, 8), Edges.NO_SUCH),
                new Refused("page(3, 0)", Make::lived, x -> x.page(3, 0), Edges.NO_SUCH),
                new Refused("page(0, 5)", Make::lived, x -> x.page(0, 5), Edges.BAD_VALUE),
                new Refused("page(0, -1)", Make::lived, x -> x.page(0, -1), Edges.BAD_VALUE),
                new Refused("line(3, 0, 0)", Make::lived, x -> x.line(3, 0, 0), Edges.NO_SUCH),
                new Refused("line(0, 8, 0)", Make::lived, x -> x.line(0, 8, 0), Edges.NO_SUCH),
                new Refused("line(0, 0, 5)", Make::lived, x -> x.line(0, 0, 5), Edges.BAD_VALUE),
                new Refused("line(0, 0, -1)", Make::lived, x -> x.line(0, 0, -1), Edges.BAD_VALUE),
                new Refused("lines(5)", Make::lived, x -> x.lines(5), Edges.BAD_VALUE),
                new Refused("lines(-1)", Make::lived, x -> x.lines(-1), Edges.BAD_VALUE),
                new Refused("hint(4, 0)", Make::lived, x -> x.hint(4, 0), Edges.NO_SUCH),
                new Refused("hint(0, 2)", Make::lived, x -> x.hint(0, 2), Edges.BAD_VALUE),
                new Refused("hint(0, -1)", Make::lived, x -> x.hint(0, -1), Edges.BAD_VALUE),
                new Refused("equalLines(3, 0)", Make::lived, x -> x.equalLines(3, 0), Edges.NO_SUCH),
                new Refused("equalLines(0, 8)", Make::lived, x -> x.equalLines(0, 8), Edges.NO_SUCH),
                new Refused("ifWritten(3, 0, 0, 1)", Make::lived, x -> x.ifWritten(3, 0, 0, 1), Edges.NO_SUCH),
                new Refused("ifWritten(0, 8, 0, 1)", Make::lived, x -> x.ifWritten(0, 8, 0, 1), Edges.NO_SUCH),
                new Refused("ifWritten(0, 0, 8, 1)", Make::lived, x -> x.ifWritten(0, 0, 8, 1), Edges.NO_SUCH),
                new Refused("ifWritten(0, 0, 0, 65536)", Make::lived, x -> x.ifWritten(0, 0, 0, 65536), Edges.BAD_VALUE),
                new Refused("ifWritten(0, 0, 0, -1)", Make::lived, x -> x.ifWritten(0, 0, 0, -1), Edges.BAD_VALUE),
                new Refused("ifRoom(9)", Make::lived, x -> x.ifRoom(9), Edges.BAD_VALUE),
                new Refused("ifRoom(-1)", Make::lived, x -> x.ifRoom(-1), Edges.BAD_VALUE));
    }

    /** Each pair of error codes of a method that can apply together, with the one that its @return line names first. */
    static List<Refused> refusedForSeveralReasons() {
        List<Refused> all = new ArrayList<>();
        int[] noValues = {-1, 65536};
        for (int value : noValues) {
            all.addAll(List.of(
                    new Refused("write: page and value", Make::lived, x -> x.write(3, 0, 0, value), Edges.NO_SUCH),
                    new Refused("write: line and value", Make::lived, x -> x.write(0, 8, 0, value), Edges.NO_SUCH),
                    new Refused("write: word and value", Make::lived, x -> x.write(0, 0, 8, value), Edges.NO_SUCH),
                    new Refused("write: value and limit", Calls::livedAtBound, x -> x.write(2, 0, 0, value), Edges.BAD_VALUE),
                    new Refused("fill: page and value", Make::lived, x -> x.fill(3, 0, value), Edges.NO_SUCH),
                    new Refused("fill: line and value", Make::lived, x -> x.fill(0, -1, value), Edges.NO_SUCH),
                    new Refused("fill: value and limit", Calls::livedAtBound, x -> x.fill(2, 0, value), Edges.BAD_VALUE),
                    new Refused("ifWritten: page and value", Make::lived, x -> x.ifWritten(3, 0, 0, value), Edges.NO_SUCH),
                    new Refused("ifWritten: line and value", Make::lived, x -> x.ifWritten(0, 8, 0, value), Edges.NO_SUCH),
                    new Refused("ifWritten: word and value", Make::lived, x -> x.ifWritten(0, 0, -1, value), Edges.NO_SUCH)));
        }
        int[] noNumbers = {-65536, 65536};
        for (int number : noNumbers) {
            all.addAll(List.of(
                    new Refused("add: page and number", Make::lived, x -> x.add(3, 0, number), Edges.NO_SUCH),
                    new Refused("add: line and number", Make::lived, x -> x.add(0, 8, number), Edges.NO_SUCH),
                    new Refused("add: number and limit", Calls::livedAtBound, x -> x.add(2, 0, number), Edges.BAD_VALUE)));
        }
        all.addAll(List.of(
                new Refused("write: word and limit", Calls::livedAtBound, x -> x.write(2, 0, 8, 1), Edges.NO_SUCH),
                new Refused("copy: the other line and limit", Calls::livedAtBound, x -> x.copy(0, 1, 2, 8), Edges.NO_SUCH),
                new Refused("copy: the line and limit", Calls::livedAtBound, x -> x.copy(0, 8, 2, 0), Edges.NO_SUCH),
                new Refused("copy: the page and limit", Calls::livedAtBound, x -> x.copy(3, 0, 2, 0), Edges.NO_SUCH),
                new Refused("setRoom: too small and limit", Calls::livedAtBound, x -> x.setRoom(-1), Edges.BAD_VALUE),
                new Refused("setRoom: too large and limit", Calls::livedAtBound, x -> x.setRoom(9), Edges.BAD_VALUE),
                new Refused("page: page and what", Make::lived, x -> x.page(3, 5), Edges.NO_SUCH),
                new Refused("line: page and what", Make::lived, x -> x.line(3, 0, 5), Edges.NO_SUCH),
                new Refused("line: line and what", Make::lived, x -> x.line(0, 8, -1), Edges.NO_SUCH),
                new Refused("hint: hint and what", Make::lived, x -> x.hint(4, 2), Edges.NO_SUCH),
                new Refused("hint: what and empty", Make::lived, x -> x.hint(2, 2), Edges.BAD_VALUE),
                new Refused("type: too small and limit", Calls::livedWithFullText, x -> x.type(32), Edges.BAD_VALUE),
                new Refused("type: too large and limit", Calls::livedWithFullText, x -> x.type(127), Edges.BAD_VALUE)));
        return all;
    }
}
