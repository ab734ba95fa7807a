import java.util.List;
import java.util.Random;

/**
 * Long runs of calls, most of them sensible: nothing but what the document says is thrown, the limits hold,
 * the same calls give the same answers, and calls with wrong numbers in between change nothing.
 */
final class RandomRunsTest {
    private static final int RUNS = 2000;
    private static final int[] WRONG = {-1, 40, 1000, Integer.MAX_VALUE, Integer.MIN_VALUE};

    public static void main(String[] args) {
        for (int run = 0; run < RUNS; run++) {
            sameCallsSameAnswers(run);
            wrongCallsBetween(run);
        }
        Check.end();
    }

    private static void sameCallsSameAnswers(int run) {
        Random numbers = new Random(run);
        Run x = new Run();
        Run y = new Run();
        while (x.room() > 9) {
            Run.Call call = RandomCall.from(numbers);
            String answer = x.attempt(call);
            Check.same("run " + run + ", the same call", y.attempt(call), answer);
            Check.no("run " + run + ", " + answer, answer.startsWith("throws") && !answer.equals(Run.NO_SUCH_ELEMENT));
        }
        limits(x);
    }

    private static void limits(Run x) {
        int lates = x.lates();
        Check.yes("lates", lates >= 0 && lates <= 20);
        for (int c = 0; c < 2; c++) {
            int messages = x.state(c, 2);
            Check.yes("messages", messages >= 0 && messages <= 40);
            int missed = x.state(c, 3);
            Check.yes("missed", missed >= 0 && missed <= 4);
            Check.same("what is to be repaired has a note", x.state(c, 13) & ~x.state(c, 11), 0);
        }
    }

    private static void wrongCallsBetween(int run) {
        Random numbers = new Random(-1 - run);
        Run x = new Run();
        Run y = new Run();
        while (y.room() > 50) {
            Run.Call call = RandomCall.from(numbers);
            Check.same("run " + run + ", behind wrong calls", y.attempt(call), x.attempt(call));
            wrong(y, numbers.nextInt(), WRONG[numbers.nextInt(WRONG.length)]);
        }
        Check.same("run " + run, Probe.looks(y), Probe.looks(x));
    }

    /** A call with one wrong number, which may stand for any of the numbers. */
    private static void wrong(Run x, int which, int n) {
        List<Run.Call> calls = List.of(
            y -> y.write(n, 0, 1), y -> y.write(0, n, 1), y -> y.read(n, 0), y -> y.read(1, n), y -> y.step(n),
            y -> y.arrive(n), y -> y.rebuild(n), y -> y.late(n), y -> y.parityGood(n), y -> y.keyOf(n),
            y -> y.state(n, 0), y -> y.state(0, n), y -> Run.bit(y.crash(n)) - 1, y -> Run.bit(y.restart(n)) - 1,
            y -> Run.bit(y.takeOver(n)) - 1, y -> Run.bit(y.moveOwner(n)) - 1, y -> Run.bit(y.flush(n)) - 1,
            y -> Run.bit(y.lose(n)) - 1, y -> Run.bit(y.replace(n)) - 1);
        Check.same("refused", x.make(calls.get(Math.floorMod(which, calls.size()))), -1);
        Check.noSuchElement("onDisk", () -> which % 2 == 0 ? x.onDisk(n, 0) : x.onDisk(0, n));
    }
}
