import java.io.IOException;
import java.nio.file.Files;
import java.nio.file.Path;
import java.util.function.Supplier;

/**
 * Tests of single sentences of the document. Each quotes the words that it tests as they stand there, so that a sentence
 * without a test, and a test without a sentence, is found.
 */
final class Edges {
    static final int NO_SUCH = -1;
    static final int BAD_VALUE = -2;
    static final int NOT_POSSIBLE = -3;
    static final int LIMIT = -4;
    static final int BAD_TEXT = -5;
    static final int NONE = -6;
    static final int[] FAR_OUT = {Integer.MIN_VALUE, Integer.MAX_VALUE};
    /** Under which number the document's "Terms" stand, beside its promises 1 to 29. */
    static final int TERMS = 0;
    private static final int PARTS = 30;

    /** A call, or a few of them; its answer is the last one's. */
    interface Call {
        long on(SqueezedLines x);
    }

    /** A call in which one number is left open. */
    interface CallOf {
        long on(SqueezedLines x, int number);
    }

    /** Makes objects that are the same. */
    interface Making extends Supplier<SqueezedLines> {
    }

    private final Check check = new Check("EdgesTest");
    private final Document document;
    private String sentence = "";

    Edges() throws IOException {
        boolean isThere = Files.exists(Path.of("../shared/DOC.md"));
        document = isThere ? new Document() : null;
    }

    /** Runs the test of some words of a part of the document. */
    void of(int part, String words, Runnable test) {
        sentence = (part == TERMS ? "Terms" : "Promise " + part) + ", \"" + words + "\"";
        if (document != null) {
            due("these words stand in the document", document.quote(part, words) ? 1 : 0, 1);
        }
        test.run();
    }

    void end() {
        sentence = "the document";
        if (document == null) {
            System.out.println("EdgesTest: ../shared/DOC.md is not here, so the quoted words were not looked up");
        } else {
            due("its terms and promises", document.numberOfParts(), PARTS);
            for (String words : document.unquoted()) {
                due("tests of " + words, 0, 1);
            }
        }
        check.end();
    }

    void due(String call, long got, long want) {
        check.due(sentence + ": " + call, got, want);
    }

    /** The call is taken: its answer is a result. */
    void taken(String name, Making making, Call call) {
        due(name + " is taken", call.on(making.get()) >= 0 ? 1 : 0, 1);
    }

    /** The call answers with the error code, and afterwards the object is as one on which it was not called. */
    void refused(String name, Making making, Call call, int code) {
        SqueezedLines x = making.get();
        due(name, call.on(x), code);
        sameStates(name, x, making.get());
        SqueezedLines y = making.get();
        call.on(y);
        sameTexts(name, y, making.get());
    }

    /** The call returns no error code, saves one state, and undo() brings it back. */
    void undoable(String name, Making making, Call call) {
        SqueezedLines x = making.get();
        SqueezedLines twin = making.get();
        long before = x.digest();
        int left = Math.min(savedStates(making.get()), 5);
        due(name + " returns no error code", isErrorCode(call.on(x)) ? 1 : 0, 0);
        due(name + " and undo()", x.undo(), left);
        due(name + " and undo(): digest()", x.digest(), before);
        while (left > 0) {
            left--;
            due(name + ", then undo()", x.undo(), left);
            twin.undo();
            due(name + ", then undo() and digest()", x.digest(), twin.digest());
        }
        due(name + ": the last undo()", x.undo(), NOT_POSSIBLE);
    }

    /** The call returns no error code, and changes neither the state nor the saved states. */
    void changesNoState(String name, Making making, Call call) {
        SqueezedLines x = making.get();
        due(name + " returns no error code", isErrorCode(call.on(x)) ? 1 : 0, 0);
        sameStates(name, x, making.get());
    }

    /** The call returns no error code, and changes nothing at all. */
    void changesNothing(String name, Making making, Call call) {
        changesNoState(name, making, call);
        SqueezedLines x = making.get();
        call.on(x);
        sameTexts(name, x, making.get());
    }

    /** Each number from least to greatest is taken at both ends, and refused beyond them. */
    void range(String name, Making making, int least, int greatest, int code, CallOf call) {
        taken(name + " of " + least, making, x -> call.on(x, least));
        taken(name + " of " + greatest, making, x -> call.on(x, greatest));
        refused(name + " of " + (least - 1), making, x -> call.on(x, least - 1), code);
        refused(name + " of " + (greatest + 1), making, x -> call.on(x, greatest + 1), code);
        for (int number : FAR_OUT) {
            refused(name + " of " + number, making, x -> call.on(x, number), code);
        }
    }

    /** The argument is a page: no number is one without pages, 0 to 9 are with ten of them, a freed one is none. */
    void pages(String name, CallOf call) {
        range(name + " in ten pages", () -> Make.withPages(10), 0, 9, NO_SUCH, call);
        refused(name + " of 0 without pages", SqueezedLines::new, x -> call.on(x, 0), NO_SUCH);
        refused(name + " of 9 in nine pages", () -> Make.withPages(9), x -> call.on(x, 9), NO_SUCH);
        taken(name + " of 8 in nine pages", () -> Make.withPages(9), x -> call.on(x, 8));
        Making withGap = () -> {
            SqueezedLines x = Make.withPages(5);
            x.free(2);
            return x;
        };
        refused(name + " of a freed page", withGap, x -> call.on(x, 2), NO_SUCH);
        taken(name + " of the page above a freed one", withGap, x -> call.on(x, 3));
        taken(name + " of the page below a freed one", withGap, x -> call.on(x, 1));
    }

    /**
     * The call that makes the sum of all sizes greater: it is taken with the bound at this sum, and refused one below; it
     * is taken above the bound if the sum does not become greater.
     */
    void limit(String name, Making making, int sum, Call call) {
        SqueezedLines atBound = making.get();
        atBound.setBound(sum);
        due(name + " to the bound is taken", isErrorCode(call.on(atBound)) ? 1 : 0, 0);
        due(name + ": count(1)", atBound.count(1), sum);
        refused(name + " to one above the bound", () -> {
            SqueezedLines x = making.get();
            x.setBound(sum - 1);
            return x;
        }, call, LIMIT);
    }

    /** The sum of all sizes is far above the bound, and the call, which does not make it greater, is carried out. */
    void aboveBound(String name, Making making, Call call, int sum) {
        SqueezedLines x = making.get();
        due(name + ": the sum is above the bound", x.count(1) > x.count(2) ? 1 : 0, 1);
        due(name + " returns no error code", isErrorCode(call.on(x)) ? 1 : 0, 0);
        due(name + ": count(1)", x.count(1), sum);
    }

    static boolean isErrorCode(long answer) {
        return answer >= BAD_TEXT && answer <= NO_SUCH;
    }

    static int savedStates(SqueezedLines x) {
        int number = 0;
        while (number < 100 && x.undo() != NOT_POSSIBLE) {
            number++;
        }
        return number;
    }

    private void sameStates(String name, SqueezedLines x, SqueezedLines twin) {
        due(name + ", then digest()", x.digest(), twin.digest());
        for (int i = 0; i < 8; i++) {
            sameUndo(name, x, twin);
        }
    }

    private void sameUndo(String name, SqueezedLines x, SqueezedLines twin) {
        due(name + ", then undo()", x.undo(), twin.undo());
        due(name + ", then undo() and digest()", x.digest(), twin.digest());
    }

    private void sameTexts(String name, SqueezedLines x, SqueezedLines twin) {
        due(name + ", then syntaxError()", x.syntaxError(), twin.syntaxError());
        due(name + ", then readLines()", x.readLines(), twin.readLines());
        due(name + ", then readLines() and digest()", x.digest(), twin.digest());
        due(name + ", then clearText()", x.clearText(), twin.clearText());
    }
}
