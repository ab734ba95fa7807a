import java.util.ArrayList;
import java.util.List;
import java.util.Random;

/**
 * "Calls with numbers that are not as said are refused, changing nothing.", and so is each call that answers false or
 * NONE or throws for another reason: in many states, as random calls make them, what is refused leaves no trace.
 */
final class EdgesOfRefusalsTest {
    private static final int STATES = 1200;
    private static final int MOST_CALLS_BEFORE = 160;

    public static void main(String[] args) {
        Check.sentence("Terms: are refused, changing nothing [and promises 2 to 7, 9 to 18, 20 to 23]");
        for (int seed = 0; seed < STATES; seed++) {
            Random numbers = new Random(seed);
            Run x = new Run();
            int before = numbers.nextInt(MOST_CALLS_BEFORE);
            for (int i = 0; i < before; i++) {
                x.attempt(RandomCall.from(numbers));
            }
            refusedLeaveNoTrace("state " + seed, x, numbers);
        }
        withAllTickets();
        Check.end();
    }

    /** No ticket is left, so each write and read is refused with NONE. */
    private static void withAllTickets() {
        for (int seed = 0; seed < STATES / 20; seed++) {
            Random numbers = new Random(-1 - seed);
            Run x = new Run();
            for (int i = 0; i < 200; i++) {
                x.write(i % 2, 16 * (i % 2) + numbers.nextInt(16), i);
            }
            for (int i = 0; i < 40; i++) {
                x.attempt(RandomCall.from(numbers));
            }
            refusedLeaveNoTrace("state with all tickets " + seed, x, numbers);
        }
    }

    private static void refusedLeaveNoTrace(String state, Run x, Random numbers) {
        List<Run.Call> refused = new ArrayList<>();
        for (Run.Call call : calls()) {
            // Not all of them at once: two that are wrong might undo one another's trace.
            if (isRefusal(Run.answer(x.again(), call)) && numbers.nextBoolean()) {
                refused.add(call);
            }
        }
        String before = Probe.all(x, x.room() - refused.size());
        for (Run.Call call : refused) {
            Check.yes(state + ", refused again", isRefusal(x.attempt(call)));
        }
        Check.same(state, Probe.all(x, x.room()), before);
    }

    private static boolean isRefusal(String answer) {
        return answer.equals(String.valueOf(Run.NONE)) || answer.equals(Run.NO_SUCH_ELEMENT);
    }

    /** What is true and false is here 1 and -1, and so is a step of one that is down. */
    private static int refusedIf(boolean refused) {
        return refused ? Run.NONE : 1;
    }

    private static List<Run.Call> calls() {
        List<Run.Call> calls = new ArrayList<>();
        calls.add(x -> refusedIf(!x.pair()));
        for (int n : new int[] {-1, 0, 1, 2}) {
            calls.add(x -> refusedIf(x.step(n) <= 0));
            calls.add(x -> x.arrive(n));
            calls.add(x -> refusedIf(!x.crash(n)));
            calls.add(x -> refusedIf(!x.restart(n)));
            calls.add(x -> refusedIf(!x.takeOver(n)));
            calls.add(x -> refusedIf(!x.moveOwner(n)));
            calls.add(x -> refusedIf(!x.flush(n)));
        }
        for (int disk = -1; disk <= 5; disk++) {
            int d = disk;
            calls.add(x -> refusedIf(!x.lose(d)));
            calls.add(x -> refusedIf(!x.replace(d)));
            calls.add(x -> x.rebuild(d));
            calls.add(x -> x.keyOf(d));
            calls.add(x -> x.onDisk(d, 3));
        }
        for (int n : new int[] {-1, 0, 1, 8, 20, 200}) {
            calls.add(x -> x.late(n));
            calls.add(x -> x.parityGood(n));
            calls.add(x -> x.ticket(n));
            calls.add(x -> x.value(n));
            calls.add(x -> x.state(0, 13 + n));
            calls.add(x -> x.state(n, 9));
        }
        for (int block : new int[] {-1, 0, 15, 16, 31, 32}) {
            for (int controller = -1; controller <= 2; controller++) {
                int c = controller;
                calls.add(x -> x.write(c, block, 77));
                calls.add(x -> x.read(c, block));
            }
        }
        return calls;
    }
}
