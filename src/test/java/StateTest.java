/** Promises 14 and 23: flush, state. */
final class StateTest {
    public static void main(String[] args) {
        flushes();
        statesOfNothing();
        eachOfFourteen();
        Check.end();
    }

    private static void flushes() {
        Run x = new Run();
        String before = Probe.looks(x);
        for (int c : new int[] {-1, 2, Integer.MAX_VALUE, Integer.MIN_VALUE}) {
            Check.no("flush", x.flush(c));
        }
        Check.same("changed nothing", Probe.looks(x), before);
        Check.yes("flush", x.flush(1));
        Check.yes("flush again", x.flush(1));
        Check.same("told", x.state(1, 8), 1);
        Check.same("the other one is not", x.state(0, 8), 0);
        Check.steps(x, 1, 7, 8);
        Check.yes("flush", x.flush(1));
        x.crash(1);
        Check.no("flush of one that is down", x.flush(1));
        Check.same("told", x.state(1, 8), 0);
        x.restart(1);
        Check.same("told", x.state(1, 8), 0);
        Check.yes("flush", x.flush(1));
    }

    private static void statesOfNothing() {
        Run x = new Run();
        for (int what = -1; what < 16; what++) {
            Check.same("state(-1)", x.state(-1, what), Run.NONE);
            Check.same("state(2)", x.state(2, what), Run.NONE);
        }
        for (int what : new int[] {-1, 14, 15, Integer.MAX_VALUE, Integer.MIN_VALUE}) {
            Check.same("state", x.state(0, what), Run.NONE);
            Check.same("state", x.state(1, what), Run.NONE);
        }
    }

    private static void states(String when, Run x, int controller, int... due) {
        for (int what = 0; what < due.length; what++) {
            Check.same(when + ", state " + what, x.state(controller, what), due[what]);
        }
    }

    private static void eachOfFourteen() {
        Run x = new Run();
        Check.mirrored(x, 0, 0, 1);
        Check.mirrored(x, 0, 1, 1);
        Check.mirrored(x, 0, 8, 1);
        Check.mirrored(x, 1, 31, 1);
        x.flush(0);
        Check.steps(x, 0, 5, 4, 1, 4, 1, 4, 1, 4, 5);
        Check.steps(x, 1, 8, 8);
        states("0 destages stripe 2", x, 0, 1, 1, 2, 0, 1, 1, 1, 0, 1, 2, 1, 5, 0, 0);
        states("1 has yet to hear of it", x, 1, 1, 3, 4, 2, 1, 1, 1, 0, 0, -1, 2, 0, 0, 0);
        Check.deliver(x);
        states("1 has heard", x, 1, 1, 1, 0, 2, 1, 1, 1, 0, 0, -1, 2, 0, 5, 0);
        x.takeOver(1);
        states("1 takes over", x, 1, 1, 1, 0, 2, 2, 1, 0, 1, 0, -1, 2, 0, 5, 0);
        Check.steps(x, 1, 2, 2, 2, 2, 2, 2);
        states("1 has taken over", x, 1, 2, 0, 0, 2, 2, 1, 0, 0, 0, -1, 3, 5, 0, 5);
    }
}
