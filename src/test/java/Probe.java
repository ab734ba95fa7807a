import java.util.Random;

/**
 * All that can be learnt of a run's object without a further call of it: by looking at others that were called
 * alike, and by letting those go on in many ways, which brings to light what no call shows at once (entries, messages,
 * what was taken).
 */
final class Probe {
    private static final int FEWEST_CALLS = 100;
    private static final int MOST_TICKETS = 200;
    private static final int RANDOM_TAILS = 16;
    private static final int RANDOM_CALLS = 60;

    private final Run run;
    private final int mostCalls;
    private final StringBuilder answers = new StringBuilder();
    private TwinArray x;
    private int callsLeft;

    private Probe(Run run, int mostCalls) {
        this.run = run;
        this.mostCalls = mostCalls;
    }

    /** All that can be seen at once. */
    static String looks(Run run) {
        Probe p = new Probe(run, run.room());
        p.look();
        p.lookAtTickets();
        return p.answers.toString();
    }

    static String looksBesideTickets(Run run) {
        Probe p = new Probe(run, run.room());
        p.look();
        return p.answers.toString();
    }

    /** How many tickets there are. */
    static int tickets(Run run) {
        return new Probe(run, run.room()).lookAtTickets();
    }

    /** All that can be seen, at once and with up to so many calls more. */
    static String all(Run run, int mostCalls) {
        Check.yes("calls enough are left to look at all", mostCalls >= FEWEST_CALLS);
        Probe p = new Probe(run, mostCalls);
        p.look();
        p.lookAtTickets();
        for (int controller = 0; controller < 2; controller++) {
            p.goOnAlone(controller);
            p.goOnTakingOver(controller);
            p.readAll(controller);
        }
        p.arrivals();
        p.lateWrites();
        p.flushAll();
        p.readWithoutDisks();
        p.pairAndMove();
        p.writeMore();
        for (int seed = 0; seed < RANDOM_TAILS; seed++) {
            p.goOnAtRandom(seed);
        }
        return p.answers.toString();
    }

    private void begin(String what) {
        answers.append("\n  ").append(what).append(':');
        x = run.again();
        callsLeft = mostCalls;
    }

    private String ask(Run.Call call) {
        if (callsLeft <= 0) {
            return "";
        }
        callsLeft--;
        String answer = Run.answer(x, call);
        answers.append(' ').append(answer);
        return answer;
    }

    /** For calls that change nothing: they may go on with another object when this one's calls are used up. */
    private String askAnyTime(Run.Call call) {
        if (callsLeft == 0 && mostCalls > 0) {
            x = run.again();
            callsLeft = mostCalls;
        }
        return ask(call);
    }

    private void look() {
        begin("states of 0, states of 1, keys, blocks by disk, parity, lates");
        for (int i = 0; i < 28; i++) {
            int what = i;
            askAnyTime(y -> y.state(what / 14, what % 14));
        }
        for (int disk = 0; disk < 5; disk++) {
            int d = disk;
            askAnyTime(y -> y.keyOf(d));
        }
        for (int i = 0; i < 40; i++) {
            int place = i;
            askAnyTime(y -> y.onDisk(place / 8, place % 8));
        }
        for (int stripe = 0; stripe < 8; stripe++) {
            int s = stripe;
            askAnyTime(y -> y.parityGood(s));
        }
        askAnyTime(y -> y.lates());
    }

    private int lookAtTickets() {
        begin("tickets and values");
        int count = 0;
        for (int i = 0; i <= MOST_TICKETS && count == i; i++) {
            int t = i;
            count += askAnyTime(y -> y.ticket(t)).equals(Run.NO_SUCH_ELEMENT) ? 0 : 1;
            askAnyTime(y -> y.value(t));
        }
        return count;
    }

    private void blocks() {
        for (int i = 0; i < 40; i++) {
            int place = i;
            ask(y -> y.onDisk(place / 8, place % 8));
        }
    }

    private void states() {
        for (int i = 0; i < 28; i++) {
            int what = i;
            ask(y -> y.state(what / 14, what % 14));
        }
    }

    private void steps(int controller, int count) {
        for (int i = 0; i < count; i++) {
            ask(y -> y.step(controller));
        }
    }

    private void goOnAlone(int controller) {
        begin("steps of " + controller);
        steps(controller, 40);
        blocks();
        states();
    }

    private void goOnTakingOver(int controller) {
        begin(controller + " takes over");
        ask(y -> Run.bit(y.takeOver(controller)));
        steps(controller, 130);
        blocks();
    }

    private void readAll(int controller) {
        begin("reads of " + controller);
        for (int block = 0; block < 32; block++) {
            read(controller, block);
        }
        states();
    }

    private void read(int controller, int block) {
        String ticket = ask(y -> y.read(controller, block));
        if (ticket.matches("[0-9]+")) {
            int t = Integer.parseInt(ticket);
            ask(y -> y.ticket(t));
            ask(y -> y.value(t));
        }
    }

    private void arrivals() {
        begin("arrivals");
        for (int i = 0; i < 84; i++) {
            int controller = i % 2;
            ask(y -> y.arrive(controller));
        }
        states();
        ask(this::join);
        for (int i = 0; i < 84; i++) {
            int controller = i % 2;
            ask(y -> y.arrive(controller));
        }
        states();
        ask(y -> Run.bit(y.takeOver(1)));
        steps(1, 57);
        blocks();
    }

    private int join(TwinArray y) {
        y.cut(false);
        return 0;
    }

    private void lateWrites() {
        begin("late writes");
        for (int controller = 0; controller < 2; controller++) {
            int c = controller;
            ask(y -> Run.bit(y.crash(c)));
        }
        for (int i = 0; i < 22; i++) {
            ask(y -> y.late(0));
        }
        ask(y -> y.lates());
        blocks();
        states();
    }

    private void flushAll() {
        begin("flush");
        for (int controller = 0; controller < 2; controller++) {
            int c = controller;
            ask(y -> Run.bit(y.flush(c)));
            steps(c, 70);
        }
        blocks();
        states();
    }

    private void readWithoutDisks() {
        begin("reads without disks");
        for (int disk = 0; disk < 5; disk++) {
            int d = disk;
            ask(y -> Run.bit(y.lose(d)));
        }
        for (int block = 0; block < 32; block++) {
            read(block / 16, block);
        }
    }

    private void pairAndMove() {
        begin("pair, move");
        ask(y -> Run.bit(y.moveOwner(0)));
        ask(y -> Run.bit(y.moveOwner(1)));
        states();
        ask(y -> Run.bit(y.pair()));
        states();
        for (int block = 0; block < 32; block++) {
            read(block / 16, block);
        }
    }

    private void writeMore() {
        begin("writes");
        for (int block = 0; block < 32; block += 5) {
            int b = block;
            ask(y -> y.write(b / 16, b, 1000 + b));
            ask(y -> y.arrive(1 - b / 16));
            ask(y -> y.arrive(b / 16));
        }
        states();
        flushRest();
    }

    private void flushRest() {
        for (int controller = 0; controller < 2; controller++) {
            int c = controller;
            ask(y -> Run.bit(y.flush(c)));
            steps(c, 40);
        }
        blocks();
    }

    private void goOnAtRandom(int seed) {
        begin("random calls " + seed);
        Random numbers = new Random(seed);
        for (int i = 0; i < RANDOM_CALLS; i++) {
            ask(RandomCall.from(numbers));
        }
    }
}
