import java.util.Random;

/** Runs of calls, drawn by fixed seeds, on the program and on the Reference. */
public final class RandomRunsTest {
    private static final Check check = new Check("RandomRunsTest");
    private static final int[] VALUES = {0, 0, 0, 1, 1, 2, 9, 15, 16, 17, 100, 240, 254, 255, 256, 257, 270, 271, 272, 999,
        32768, 65519, 65520, 65534, 65535};
    private static final int[] BAD_NUMBERS = {-1, 8, 9, 10, 65536, -65536, Integer.MIN_VALUE, Integer.MAX_VALUE};
    private static final int RUNS = 300;
    private static final int CALLS = 512;

    private final Random random;
    private final SqueezedLines program = new SqueezedLines();
    private final Reference reference = new Reference();
    private final StringBuilder told = new StringBuilder();
    private final int kind;
    private final int greatestPage;
    private String toType = "";
    private int calls = 0;
    private boolean isAsDue = true;

    private RandomRunsTest(int seed) {
        random = new Random(seed);
        kind = seed % 4;
        greatestPage = 1 + random.nextInt(10);
    }

    public static void main(String[] args) {
        for (int seed = 0; seed < RUNS; seed++) {
            RandomRunsTest run = new RandomRunsTest(seed);
            run.go();
            check.due("run " + seed, run.isAsDue ? 1 : 0, 1);
            if (!run.isAsDue) {
                System.out.println(run.told);
            }
        }
        check.end();
    }

    private void due(String call, long got, long want) {
        calls++;
        told.append(call).append(" -> ").append(got).append('\n');
        if (got != want) {
            told.append("   due is ").append(want).append('\n');
            isAsDue = false;
        }
    }

    private void go() {
        while (isAsDue && calls < CALLS - 1) {
            if (!toType.isEmpty() && random.nextInt(100) != 0) {
                typeNext();
            } else {
                call();
                if (kind != 0) {
                    due("digest()", program.digest(), reference.digest());
                }
            }
        }
        due("digest()", program.digest(), reference.digest());
    }

    private void typeNext() {
        char sign = toType.charAt(0);
        toType = toType.substring(1);
        due("type " + sign, program.type(sign), reference.type(sign));
        if (kind == 3 && calls < CALLS - 2 || toType.isEmpty()) {
            due("syntaxError()", program.syntaxError(), reference.syntaxError());
        }
        if (toType.isEmpty() && calls < CALLS - 2) {
            due("readLines()", program.readLines(), reference.readLines());
            if (random.nextInt(3) > 0) {
                due("clearText()", program.clearText(), reference.clearText());
            }
        }
    }

    private int orBad(int number) {
        return random.nextInt(40) == 0 ? BAD_NUMBERS[random.nextInt(BAD_NUMBERS.length)] : number;
    }

    private int page() {
        return orBad(random.nextInt(greatestPage));
    }

    private int eight() {
        return orBad(random.nextInt(8));
    }

    private int value() {
        return orBad(random.nextInt(6) == 0 ? random.nextInt(65536) : VALUES[random.nextInt(VALUES.length)]);
    }

    private void call() {
        int a = page();
        int b = eight();
        int c = eight();
        int v = value();
        switch (random.nextInt(34)) {
            case 0: case 1: case 2: changeSetting(); break;
            case 3: case 4: case 5: due("newPage()", program.newPage(), reference.newPage()); break;
            case 6: if (random.nextInt(3) == 0) { due("free " + a, program.free(a), reference.free(a)); } break;
            case 7: due("layAnew " + a, program.layAnew(a), reference.layAnew(a)); break;
            case 8: if (random.nextInt(2) == 0) { due("layAllAnew()", program.layAllAnew(), reference.layAllAnew()); } break;
            case 9: case 10: case 11: case 12: case 13:
                due("write " + a + " " + b + " " + c + " " + v, program.write(a, b, c, v), reference.write(a, b, c, v)); break;
            case 14: case 15: case 16: due("fill " + a + " " + b + " " + v, program.fill(a, b, v), reference.fill(a, b, v)); break;
            case 17: case 18: addNumber(a, b); break;
            case 19: case 20: copyLine(a, b, page(), c); break;
            case 21: case 22: case 23: case 24:
                due("look " + a + " " + b + " " + c, program.look(a, b, c), reference.look(a, b, c)); break;
            case 25: case 26: undoSome(); break;
            case 27: case 28: toType = someText(); break;
            case 29: case 30: forecast(a, b, c, v); break;
            default: ask(a, b, c); break;
        }
    }

    private void changeSetting() {
        int room = orBad(random.nextInt(9));
        int bound = orBad(20 + random.nextInt(random.nextInt(8) == 0 ? 980 : 200));
        if (random.nextBoolean()) {
            due("setRoom " + room, program.setRoom(room), reference.setRoom(room));
        } else if (random.nextInt(3) == 0) {
            due("setBound " + bound, program.setBound(bound), reference.setBound(bound));
        }
    }

    private void addNumber(int page, int line) {
        int number = orBad(random.nextBoolean() ? value() : -Math.abs(value() / 2));
        due("add " + page + " " + line + " " + number, program.add(page, line, number), reference.add(page, line, number));
    }

    private void copyLine(int page, int line, int otherPage, int otherLine) {
        due("copy " + page + " " + line + " " + otherPage + " " + otherLine,
                program.copy(page, line, otherPage, otherLine), reference.copy(page, line, otherPage, otherLine));
    }

    private void undoSome() {
        int times = random.nextInt(10) == 0 ? 7 : 1;
        for (int i = 0; i < times && calls < CALLS - 2; i++) {
            due("undo()", program.undo(), reference.undo());
        }
    }

    private void forecast(int page, int line, int word, int value) {
        int room = orBad(random.nextInt(9));
        switch (random.nextInt(4)) {
            case 0: due("ifRoom " + room, program.ifRoom(room), reference.ifRoom(room)); break;
            case 1: due("loosest()", program.loosest(), reference.loosest()); break;
            case 2: due("rawPagesLeft()", program.rawPagesLeft(), reference.rawPagesLeft()); break;
            default: due("ifWritten " + page + " " + line + " " + word + " " + value,
                    program.ifWritten(page, line, word, value), reference.ifWritten(page, line, word, value)); break;
        }
    }

    private void ask(int page, int line, int word) {
        int what = orBad(random.nextInt(9));
        switch (random.nextInt(7)) {
            case 0: due("count " + what, program.count(what), reference.count(what)); break;
            case 1: due("peek", program.peek(page, line, word), reference.peek(page, line, word)); break;
            case 2: due("page " + page + " " + what, program.page(page, what), reference.page(page, what)); break;
            case 3: due("line " + page + " " + line + " " + what, program.line(page, line, what), reference.line(page, line, what)); break;
            case 4: due("lines " + what, program.lines(what), reference.lines(what)); break;
            case 5: due("hint " + line + " " + what, program.hint(line, what), reference.hint(line, what)); break;
            default: due("equalLines " + page + " " + line, program.equalLines(page, line), reference.equalLines(page, line)); break;
        }
    }

    private String someText() {
        StringBuilder text = new StringBuilder();
        int entries = 1 + random.nextInt(kind == 3 ? 8 : 4);
        for (int i = 0; i < entries; i++) {
            text.append(i == 0 ? "" : ";").append(random.nextInt(greatestPage)).append(':').append(random.nextInt(8)).append('=');
            int values = random.nextInt(4) == 0 ? 8 : 1;
            for (int j = 0; j < values; j++) {
                text.append(j == 0 ? "" : ",").append(VALUES[random.nextInt(VALUES.length)]);
            }
            text.append(values == 1 ? "*" : "");
        }
        if (random.nextInt(kind == 3 ? 2 : 5) == 0) {
            text.setCharAt(random.nextInt(text.length()), "0123456789:;=*,6553a!~".charAt(random.nextInt(22)));
        }
        return text.toString();
    }
}
