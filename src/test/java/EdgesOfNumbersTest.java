import java.util.function.IntFunction;
import java.util.function.Supplier;

/**
 * The last row of Terms: "Calls with numbers that are not as said are refused, changing nothing.": each number of each
 * call, in objects in which as much as can be is going on.
 */
final class EdgesOfNumbersTest {
    private static final int CONTROLLERS = 2;
    private static final int VOLUMES = 2;
    private static final int BLOCKS = 32;
    private static final int DISKS = 5;
    private static final int STRIPES = 8;

    public static void main(String[] args) {
        Check.sentence("Terms: Calls with numbers that are not as said are refused, changing nothing");
        for (int i = 0; i < 7; i++) {
            int which = i;
            numbersOfControllers(() -> busy(which));
            numbersOfBlocks(() -> busy(which));
            numbersOfDisksAndStripes(() -> busy(which));
            otherNumbers(() -> busy(which));
        }
        Check.end();
    }

    private static Run busy(int which) {
        switch (which) {
            case 0: return new Run();
            case 1: return destagingBoth();
            case 2: return takingOver();
            case 3: return repairing();
            case 4: return downAndLate();
            case 5: return bothDown();
            default: return cutWithFewDisks();
        }
    }

    private static Run destagingBoth() {
        Run x = new Run();
        for (int c = 0; c < 2; c++) {
            Check.mirrored(x, c, 16 * c, 5);
            x.write(c, 16 * c + 1, 6);
            x.write(c, 16 * c + 15, 7);
            x.read(c, 16 * c + 9);
            x.flush(c);
            Check.steps(x, c, 5, 4);
        }
        x.lose(3);
        x.replace(3);
        return x;
    }

    private static Run takingOver() {
        Run x = new Run();
        Check.mirrored(x, 0, 15, 5);
        x.write(1, 16, 6);
        x.lose(0);
        x.takeOver(1);
        Check.steps(x, 1, 2, 2);
        return x;
    }

    private static Run repairing() {
        Run x = new Run();
        Check.mirrored(x, 0, 4, 6);
        x.flush(0);
        Check.steps(x, 0, 5, 4, 1);
        Check.deliver(x);
        Check.takeOverWhole(x, 1);
        x.write(0, 5, 7);
        return x;
    }

    private static Run downAndLate() {
        Run x = new Run();
        for (int i = 0; i < 2; i++) {
            x.write(0, i, 50 + i);
            x.flush(0);
            Check.steps(x, 0, 5, 4);
            x.crash(0);
            x.restart(0);
            Check.yes("pair", x.pair());
        }
        x.write(1, 31, 8);
        x.crash(0);
        return x;
    }

    private static Run bothDown() {
        Run x = downAndLate();
        x.crash(1);
        return x;
    }

    private static Run cutWithFewDisks() {
        Run x = new Run();
        Check.mirrored(x, 1, 20, 5);
        x.write(1, 21, 5);
        x.cut(true);
        Check.steps(x, 1, 8);
        Check.loseAll(x, 7);
        return x;
    }

    /** Both sides of what is allowed, the least and the greatest int, and some that are like 0 or 1 in low bits. */
    private static int[] wrong(int first) {
        return new int[] {Integer.MIN_VALUE, Integer.MIN_VALUE + 1, -256, -32, -2, -1, first, first + 1, 64, 256,
            1 << 16, Integer.MAX_VALUE - 1, Integer.MAX_VALUE};
    }

    private static void refused(Supplier<Run> maker, String what, int due, int first, IntFunction<Run.Call> call) {
        int[] numbers = wrong(first);
        Run.Call[] calls = new Run.Call[numbers.length];
        for (int i = 0; i < numbers.length; i++) {
            calls[i] = call.apply(numbers[i]);
        }
        Check.refused(what, maker.get(), due, calls);
    }

    private static void thrown(Supplier<Run> maker, String what, int first, IntFunction<Run.Call> call) {
        int[] numbers = wrong(first);
        Run.Call[] calls = new Run.Call[numbers.length];
        for (int i = 0; i < numbers.length; i++) {
            calls[i] = call.apply(numbers[i]);
        }
        Check.refusedByThrow(what, maker.get(), calls);
    }

    private static void numbersOfControllers(Supplier<Run> maker) {
        for (int block : new int[] {0, 15, 16, 31}) {
            refused(maker, "write", Run.NONE, CONTROLLERS, n -> x -> x.write(n, block, 1));
            refused(maker, "read", Run.NONE, CONTROLLERS, n -> x -> x.read(n, block));
        }
        refused(maker, "step", Run.NONE, CONTROLLERS, n -> x -> x.step(n));
        refused(maker, "arrive", Run.NONE, CONTROLLERS, n -> x -> x.arrive(n));
        refused(maker, "crash", 0, CONTROLLERS, n -> x -> Run.bit(x.crash(n)));
        refused(maker, "restart", 0, CONTROLLERS, n -> x -> Run.bit(x.restart(n)));
        refused(maker, "takeOver", 0, CONTROLLERS, n -> x -> Run.bit(x.takeOver(n)));
        refused(maker, "flush", 0, CONTROLLERS, n -> x -> Run.bit(x.flush(n)));
        refused(maker, "moveOwner", 0, VOLUMES, n -> x -> Run.bit(x.moveOwner(n)));
        for (int what = 0; what < 14; what++) {
            int w = what;
            refused(maker, "state", Run.NONE, CONTROLLERS, n -> x -> x.state(n, w));
        }
    }

    private static void numbersOfBlocks(Supplier<Run> maker) {
        for (int controller = 0; controller < 2; controller++) {
            int c = controller;
            refused(maker, "write", Run.NONE, BLOCKS, n -> x -> x.write(c, n, 1));
            refused(maker, "read", Run.NONE, BLOCKS, n -> x -> x.read(c, n));
        }
    }

    private static void numbersOfDisksAndStripes(Supplier<Run> maker) {
        refused(maker, "lose", 0, DISKS, n -> x -> Run.bit(x.lose(n)));
        refused(maker, "replace", 0, DISKS, n -> x -> Run.bit(x.replace(n)));
        refused(maker, "rebuild", Run.NONE, DISKS, n -> x -> x.rebuild(n));
        refused(maker, "keyOf", Run.NONE, DISKS, n -> x -> x.keyOf(n));
        refused(maker, "parityGood", Run.NONE, STRIPES, n -> x -> x.parityGood(n));
        thrown(maker, "onDisk", DISKS, n -> x -> x.onDisk(n, 0));
        thrown(maker, "onDisk", DISKS, n -> x -> x.onDisk(n, 7));
        thrown(maker, "onDisk", STRIPES, n -> x -> x.onDisk(3, n));
        thrown(maker, "onDisk", STRIPES, n -> x -> x.onDisk(4, n));
    }

    private static void otherNumbers(Supplier<Run> maker) {
        Run x = maker.get();
        int tickets = Probe.tickets(x);
        int lates = x.lates();
        thrown(maker, "ticket", tickets, n -> y -> y.ticket(n));
        thrown(maker, "value", tickets, n -> y -> y.value(n));
        refused(maker, "late", Run.NONE, lates, n -> y -> y.late(n));
        refused(maker, "state", Run.NONE, 14, n -> y -> y.state(0, n));
        refused(maker, "state", Run.NONE, 14, n -> y -> y.state(1, n));
    }
}
