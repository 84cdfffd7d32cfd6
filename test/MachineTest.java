/** No call may throw, whatever its arguments and the state; a call that returns an error code changes nothing. */
public final class MachineTest {
    private static final Check check = new Check("MachineTest");
    private static final int[] NUMBERS = {Integer.MIN_VALUE, Integer.MIN_VALUE + 1, -65536, -65535, -10, -9, -8, -1, 0, 1, 7, 8,
        9, 10, 15, 63, 64, 65535, 65536, 1 << 28, 1 << 29, 1 << 30, Integer.MAX_VALUE - 1, Integer.MAX_VALUE};

    public static void main(String[] args) {
        callsOfOneNumber();
        callsOfSeveralNumbers();
        manyCalls();
        check.end();
    }

    private static SqueezedLines[] states() {
        SqueezedLines full = Make.withPages(10);
        Make.rawLines(full, 0, 0, 7);
        Make.typeAll(full, "0:0=5*");
        SqueezedLines above = Make.withPages(2);
        Make.rawLines(above, 0, 0, 7);
        above.setBound(20);
        return new SqueezedLines[] {new SqueezedLines(), Make.withPages(1), Make.withLoosePage(), full, above};
    }

    private static void callsOfOneNumber() {
        for (int number : NUMBERS) {
            for (int call = 0; call < 10; call++) {
                for (SqueezedLines x : states()) {
                    long before = x.digest();
                    long answer = callOfOneNumber(x, call, number);
                    if (answer < 0) {
                        check.due("digest() after call " + call + " of " + number, x.digest(), before);
                    }
                }
            }
        }
    }

    private static long callOfOneNumber(SqueezedLines x, int call, int number) {
        switch (call) {
            case 0: return x.setRoom(number);
            case 1: return x.setBound(number);
            case 2: return x.free(number);
            case 3: return x.layAnew(number);
            case 4: return x.count(number);
            case 5: return x.lines(number);
            case 6: return x.ifRoom(number);
            case 7: return x.type(number);
            case 8: return x.page(number, number);
            default: return x.hint(number, number);
        }
    }

    private static void callsOfSeveralNumbers() {
        for (int a : NUMBERS) {
            for (int b : NUMBERS) {
                for (int call = 0; call < 10; call++) {
                    SqueezedLines[] states = states();
                    SqueezedLines x = states[(NUMBERS.length + call) % states.length];
                    int calls = 0;
                    for (int c : NUMBERS) {
                        long before = x.digest();
                        long answer = callOfSeveralNumbers(x, call, new int[] {a, b, c, calls});
                        if (answer < 0) {
                            check.due("digest() after call " + call + " of " + a + ", " + b + ", " + c, x.digest(), before);
                        }
                        calls++;
                    }
                }
            }
        }
    }

    private static long callOfSeveralNumbers(SqueezedLines x, int call, int[] n) {
        switch (call) {
            case 0: return x.write(n[0], n[1], n[2], n[3]);
            case 1: return x.write(0, n[0], n[1], n[2]);
            case 2: return x.fill(n[0], n[1], n[2]);
            case 3: return x.add(n[0], n[1], n[2]);
            case 4: return x.copy(n[0], n[1], n[2], n[3] % 8);
            case 5: return x.copy(0, n[0], n[1], n[2]);
            case 6: return x.look(n[0], n[1], n[2]);
            case 7: return x.peek(n[0], n[1], n[2]);
            case 8: return Math.min(x.line(n[0], n[1], n[2]), x.equalLines(n[0], n[1]));
            default: return Math.min(x.ifWritten(n[0], n[1], n[2], n[3]), Math.min(x.page(n[0], n[1]), x.hint(n[0], n[1])));
        }
    }

    /** What is answered after the 512th call is free, but no call may throw. */
    private static void manyCalls() {
        SqueezedLines x = new SqueezedLines();
        for (int i = 0; i < 3000; i++) {
            x.newPage();
            x.look(i % 11, i % 9, i % 10);
            x.write(i % 11, i % 8, i % 8, i * 31 % 65536);
            x.type(33 + i % 94);
            if (i % 3 == 0) {
                x.undo();
            }
            if (i % 50 == 0) {
                x.free(i % 10);
            }
        }
        check.due("type(33) at the end", x.type(33), -4);
    }
}
