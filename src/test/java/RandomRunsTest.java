import java.util.NoSuchElementException;
import java.util.Random;

/**
 * Long runs of calls, most of them sensible: nothing but what the document says is thrown, the limits hold,
 * the same calls give the same answers, and calls with wrong numbers in between change nothing.
 */
final class RandomRunsTest {
    private static final int RUNS = 3000;
    private static final int CALLS = 512;
    private static final int[] WRONG = {-1, 40, 1000, Integer.MAX_VALUE, Integer.MIN_VALUE};

    public static void main(String[] args) {
        for (int run = 0; run < RUNS; run++) {
            Random numbers = new Random(run);
            TwinArray x = new TwinArray();
            TwinArray y = new TwinArray();
            for (int i = 0; i < CALLS; i++) {
                int kind = numbers.nextInt(40);
                int a = numbers.nextInt(1 << 16);
                int b = numbers.nextInt(1 << 16);
                Check.same("run " + run + ", call " + i + " of kind " + kind, call(x, kind, a, b), call(y, kind, a, b));
                refused(y, WRONG[a % WRONG.length]);
            }
            Check.same("run " + run, Check.seen(y), Check.seen(x));
            limits(x);
        }
        Check.end();
    }

    private static int call(TwinArray x, int kind, int a, int b) {
        switch (kind) {
            case 0: case 1: case 2: return x.write(a % 2, (a % 2 * 16 + b % 16 + a / 2 % 9 / 8 * 16) % 32, a * b);
            case 3: return x.read(a % 2, b % 32);
            case 4: return orMinusTwo(() -> x.ticket(a % 100) * 7 + x.value(a % 100));
            case 5: x.cut(a % 8 == 0); return 0;
            case 6: return a % 3 == 0 ? bit(x.crash(b % 2)) : 0;
            case 7: return bit(x.restart(a % 2));
            case 8: return bit(x.pair());
            case 9: return a % 3 == 0 ? bit(x.takeOver(b % 2)) : 0;
            case 10: return bit(x.moveOwner(a % 2));
            case 11: return bit(x.flush(a % 2));
            case 12: return a % 4 == 0 ? bit(x.lose(b % 5)) : 0;
            case 13: return bit(x.replace(a % 5));
            case 14: return x.rebuild(a % 5);
            case 15: return a % 4 == 0 ? x.late(b % 3) : x.lates();
            case 16: return x.parityGood(a % 8);
            case 17: return orMinusTwo(() -> x.onDisk(a % 5, b % 8));
            case 18: return x.keyOf(a % 5);
            case 19: return x.state(a % 2, b % 15);
            case 20: case 21: case 22: case 23: case 24: case 25: case 26: return x.arrive(a % 2);
            default: return x.step(a % 2);
        }
    }

    /** Calls with one wrong number, which may stand for any of the numbers. */
    private static void refused(TwinArray x, int n) {
        int got = x.write(n, 0, 1) + x.write(0, n, 1) + x.read(n, 0) + x.read(1, n) + x.step(n) + x.arrive(n)
            + x.rebuild(n) + x.late(n) + x.parityGood(n) + x.keyOf(n) + x.state(n, 0) + x.state(0, n);
        Check.same("refused", got, -12);
        boolean any = x.crash(n) || x.restart(n) || x.takeOver(n) || x.moveOwner(n) || x.flush(n) || x.lose(n)
            || x.replace(n);
        Check.no("refused", any);
        Check.noSuchElement("onDisk", () -> x.onDisk(n, 0));
        Check.noSuchElement("onDisk", () -> x.onDisk(0, n));
    }

    private static void limits(TwinArray x) {
        Check.yes("lates", x.lates() >= 0 && x.lates() <= 20);
        for (int c = 0; c < 2; c++) {
            Check.yes("messages", x.state(c, 2) >= 0 && x.state(c, 2) <= 40);
            Check.yes("missed", x.state(c, 3) >= 0 && x.state(c, 3) <= 4);
            Check.same("what is to be repaired has a note", x.state(c, 13) & ~x.state(c, 11), 0);
        }
    }

    private static int orMinusTwo(java.util.function.IntSupplier call) {
        try {
            return call.getAsInt();
        } catch (NoSuchElementException e) {
            return -2;
        }
    }

    private static int bit(boolean b) {
        return b ? 1 : 0;
    }
}
