/** Promises 28 and 29. */
public final class UndoTest {
    private static final Check check = new Check("UndoTest");

    public static void main(String[] args) {
        nothingSaved();
        sixStates();
        everyUndoableCall();
        callsThatSaveNothing();
        textIsNotOfTheState();
        undoAboveTheBound();
        changesAfterUndo();
        digestOfNewObject();
        digestOfAll();
        check.end();
    }

    private static void nothingSaved() {
        SqueezedLines x = new SqueezedLines();
        long before = x.digest();
        check.due("undo()", x.undo(), -3);
        check.due("digest()", x.digest(), before);
        x.newPage();
        check.due("undo()", x.undo(), 0);
        check.due("undo()", x.undo(), -3);
        check.due("count(0)", x.count(0), 0);
    }

    private static void sixStates() {
        for (int changes = 1; changes <= 20; changes++) {
            SqueezedLines x = Make.withPages(1);
            long[] digests = new long[changes + 1];
            digests[0] = x.digest();
            for (int i = 1; i <= changes; i++) {
                x.fill(0, i % 8, i);
                digests[i] = x.digest();
            }
            int saved = Math.min(6, changes + 1);
            for (int i = 1; i <= Math.min(6, changes); i++) {
                check.due("undo() " + i + " after " + changes, x.undo(), saved - i);
                check.due("digest() after undo " + i + " of " + changes, x.digest(), digests[changes - i]);
            }
            if (changes > 5) {
                check.due("undo(): the oldest were discarded", x.undo(), -3);
                check.due("digest()", x.digest(), digests[changes - 6]);
            }
        }
    }

    /** Each of these calls saves one state, also if it changes nothing. */
    private static void everyUndoableCall() {
        for (int call = 0; call < 23; call++) {
            SqueezedLines x = prepared();
            long before = x.digest();
            undoable(x, call);
            check.due("undo() of call " + call, x.undo(), 0);
            check.due("digest() after undo of call " + call, x.digest(), before);
        }
    }

    /** Two pages, lines of all forms, a loose page, hints; no state is saved. */
    private static SqueezedLines prepared() {
        SqueezedLines x = Make.withLoosePage();
        x.newPage();
        Make.sameLines(x, 1, 0, 2);
        x.write(0, 1, 0, 12);
        x.write(0, 2, 0, 120);
        x.look(0, 1, 0);
        x.look(1, 1, 0);
        // Six saved states that are the same as the present one, then taken back.
        for (int i = 0; i < 6; i++) {
            x.setBound(300);
        }
        for (int i = 0; i < 6; i++) {
            x.undo();
        }
        return x;
    }

    private static void undoable(SqueezedLines x, int call) {
        switch (call) {
            case 0: x.setRoom(0); break;
            case 1: x.setRoom(3); break;
            case 2: x.setBound(100); break;
            case 3: x.setBound(300); break;
            case 4: x.newPage(); break;
            case 5: x.free(0); break;
            case 6: x.free(1); break;
            case 7: x.layAnew(0); break;
            case 8: x.layAnew(1); break;
            case 9: x.layAllAnew(); break;
            case 10: x.write(0, 0, 0, 1000); break;
            case 11: x.write(0, 0, 0, x.peek(0, 0, 0)); break;
            case 12: x.fill(1, 7, 3); break;
            case 13: x.fill(0, 0, x.peek(0, 0, 0)); break;
            case 14: x.add(1, 7, 3); break;
            case 15: x.add(1, 7, 0); break;
            case 16: x.copy(0, 2, 1, 2); break;
            case 17: x.copy(0, 2, 0, 2); break;
            case 18: x.look(0, 0, 0); break;
            case 19: x.look(1, 0, 0); break;
            case 20: Make.typeAll(x, "1:1=1000,1,1,1,1,1,1,1;0:0=1*"); x.readLines(); break;
            case 21: Make.typeAll(x, "9:1=1*"); x.readLines(); break;
            case 22: x.fill(1, 4, 3); break;
            default: throw new IllegalArgumentException("no such call");
        }
    }

    private static void callsThatSaveNothing() {
        SqueezedLines x = Make.withPages(1);
        x.setBound(20);
        x.fill(0, 0, 1);
        x.fill(0, 1, 1);
        long before = x.digest();
        x.setRoom(9);
        x.setRoom(1);
        x.undo();
        x.setBound(5);
        x.free(4);
        x.layAnew(4);
        x.write(0, 0, 9, 1);
        x.write(0, 0, 0, -1);
        x.write(0, 2, 0, 1);
        x.fill(0, 2, 1);
        x.fill(0, 2, -1);
        x.add(0, 2, 1);
        x.add(0, 2, 70000);
        x.copy(0, 0, 0, 2);
        x.copy(0, 0, 4, 2);
        x.look(0, 0, 9);
        x.readLines();
        x.type('0');
        x.clearText();
        x.count(0);
        x.ifRoom(0);
        check.due("digest()", x.digest(), before);
        check.due("undo()", x.undo(), 3);
        check.due("peek(0, 1, 0): the last change is undone", x.peek(0, 1, 0), 0);
        check.due("undo()", x.undo(), 2);
        check.due("undo()", x.undo(), 1);
        check.due("undo()", x.undo(), 0);
        check.due("undo()", x.undo(), -3);
    }

    private static void textIsNotOfTheState() {
        SqueezedLines x = Make.withPages(1);
        Make.typeAll(x, "0:0");
        check.due("undo()", x.undo(), 0);
        check.due("clearText(): undo leaves the text", x.clearText(), 3);
    }

    /** The document names no LIMIT for undo. */
    private static void undoAboveTheBound() {
        SqueezedLines x = Make.withPages(1);
        Make.rawLines(x, 0, 0, 2);
        x.setBound(20);
        x.fill(0, 0, 0);
        check.due("count(1)", x.count(1), 17);
        check.due("undo() to a sum above the bound", x.undo(), 5);
        check.due("count(1)", x.count(1), 25);
        check.due("count(2)", x.count(2), 20);
    }

    private static void changesAfterUndo() {
        SqueezedLines x = Make.withPages(1);
        x.fill(0, 0, 1);
        x.fill(0, 0, 2);
        check.due("undo()", x.undo(), 2);
        x.fill(0, 0, 3);
        check.due("undo()", x.undo(), 2);
        check.due("peek(0, 0, 0)", x.peek(0, 0, 0), 1);
        check.due("undo()", x.undo(), 1);
        check.due("peek(0, 0, 0)", x.peek(0, 0, 0), 0);
    }

    private static void digestOfNewObject() {
        long[] values = {0, 0, 300, 3, 0, 0, 0, 0, 0, 0, 0, 0, 0, 0, -6, -6, -6, -6, -6, -6, -6, -6, -6, 4};
        long hash = 432;
        for (long value : values) {
            hash = 31 * hash + value;
        }
        SqueezedLines x = new SqueezedLines();
        check.due("digest() of a new object", x.digest(), hash);
        check.due("digest() again", x.digest(), hash);
        check.due("undo(): a digest saves nothing", x.undo(), -3);
    }

    /** The digest against the list of the document, asked by the other calls. */
    private static void digestOfAll() {
        SqueezedLines x = Make.withLoosePage();
        x.newPage();
        x.newPage();
        Make.sameLines(x, 1, 0, 2);
        x.write(2, 1, 0, 12);
        x.write(2, 2, 7, 120);
        x.look(2, 1, 0);
        x.look(1, 1, 0);
        x.look(1, 2, 0);
        x.newPage();
        x.free(2);
        x.fill(0, 7, 5);
        long hash = 432;
        for (int what = 0; what < 9; what++) {
            hash = 31 * hash + x.count(what);
        }
        for (int page : new int[] {0, 1, 3}) {
            hash = 31 * hash + page;
            for (int what = 0; what < 5; what++) {
                hash = 31 * hash + x.page(page, what);
            }
            for (int line = 0; line < 8; line++) {
                hash = 31 * hash + x.line(page, line, 0);
                for (int word = 0; word < 8; word++) {
                    hash = 31 * hash + x.peek(page, line, word);
                }
            }
        }
        for (int form = 0; form < 5; form++) {
            hash = 31 * hash + x.lines(form);
        }
        for (int hint = 0; hint < 4; hint++) {
            hash = 31 * hash + x.hint(hint, 0);
            hash = 31 * hash + x.hint(hint, 1);
        }
        hash = 31 * hash + x.loosest();
        hash = 31 * hash + x.rawPagesLeft();
        check.due("digest()", x.digest(), hash);
    }
}
