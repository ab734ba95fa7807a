/** Promises 7 and 8: arrive, cut. */
final class LinkTest {
    public static void main(String[] args) {
        arrivalsAtNone();
        oneBehindTheOther();
        mirrorTakesHigherVersionsOnly();
        gotIsForOpenTicketsOnly();
        forgetGoesBehindItsMirror();
        forgetIsForItsVersionOnly();
        beatsAreCounted();
        downOrAloneTakesNoNotice();
        fortyMessages();
        eachControllerHasItsOwnForty();
        cutLinks();
        Check.end();
    }

    private static void arrivalsAtNone() {
        Run x = new Run();
        x.step(0);
        x.step(1);
        for (int c : new int[] {-1, 2, Integer.MAX_VALUE, Integer.MIN_VALUE}) {
            Check.same("arrive", x.arrive(c), Run.NONE);
        }
        Check.same("messages", x.state(0, 2), 1);
        Check.same("messages", x.state(1, 2), 1);
        Check.arrivals(x, 0, 5, -1);
        Check.arrivals(x, 1, 5, -1);
    }

    private static void oneBehindTheOther() {
        Run x = new Run();
        x.write(0, 0, 1);
        x.flush(0);
        Check.steps(x, 0, 5, 4, 1, 4, 1, 4, 6, 7, 8);
        Check.same("messages", x.state(1, 2), 5);
        Check.arrivals(x, 1, 0);
        Check.same("mirror entry", x.state(1, 1), 1);
        Check.same("GOT goes back", x.state(0, 2), 1);
        Check.arrivals(x, 1, 3);
        Check.same("remark", x.state(1, 12), 1);
        Check.arrivals(x, 1, 2);
        Check.same("mirror entry", x.state(1, 1), 0);
        Check.arrivals(x, 1, 4);
        Check.same("remark", x.state(1, 12), 0);
        Check.arrivals(x, 1, 5, -1);
        Check.same("open", x.ticket(0), 0);
        Check.arrivals(x, 0, 1, -1);
        Check.same("done", x.ticket(0), 1);
    }

    private static void mirrorTakesHigherVersionsOnly() {
        Run x = new Run();
        int first = x.write(0, 5, 1);
        int second = x.write(0, 5, 2);
        Check.deliver(x);
        Check.same("one entry of a block", x.state(1, 1), 1);
        Check.same("both are got", x.ticket(first) + x.ticket(second), 2);
        Check.takeOverWhole(x, 1);
        Check.same("the later value", Check.readValue(x, 1, 5), 2);
    }

    private static void gotIsForOpenTicketsOnly() {
        Run x = new Run();
        int t = x.write(0, 5, 1);
        Check.arrivals(x, 1, 0);
        x.crash(0);
        Check.same("refused", x.ticket(t), 2);
        Check.arrivals(x, 0, 1);
        Check.same("stays refused", x.ticket(t), 2);
        Run y = new Run();
        int u = y.write(0, 5, 1);
        Check.arrivals(y, 1, 0);
        Check.steps(y, 0, 8, 8, 8, 8);
        Check.arrivals(y, 0, 1);
        Check.same("one that is alone takes no notice", y.ticket(u), 0);
    }

    private static void forgetIsForItsVersionOnly() {
        Run x = new Run();
        Check.mirrored(x, 0, 0, 1);
        x.cut(true);
        x.write(0, 0, 2);
        x.cut(false);
        x.flush(0);
        Check.steps(x, 0, 5, 4, 1, 4, 1, 4, 6, 7);
        Check.arrivals(x, 1, 3, 2, 4, -1);
        Check.same("of another version: it stays", x.state(1, 1), 1);
        Check.takeOverWhole(x, 1);
        Check.same("it", Check.readValue(x, 1, 0), 1);
    }

    private static void forgetGoesBehindItsMirror() {
        Run x = new Run();
        Check.mirrored(x, 0, 0, 1);
        x.flush(0);
        Check.steps(x, 0, 5, 4, 1, 4, 1, 4);
        x.write(0, 0, 2);
        Check.arrivals(x, 1, 3, 2);
        Check.same("forgotten", x.state(1, 1), 0);
        Check.arrivals(x, 1, 0);
        Check.same("the later one is there", x.state(1, 1), 1);
        Check.steps(x, 0, 5, 4, 1, 4, 1, 4);
        x.write(0, 1, 3);
        x.write(0, 0, 4);
        Check.deliver(x);
        Check.same("two", x.state(1, 1), 2);
        Check.steps(x, 0, 5, 4, 1, 4, 1, 4, 1);
        x.cut(true);
        Check.steps(x, 0, 4);
        x.cut(false);
        Check.same("FORGET was lost", x.state(1, 1), 2);
        x.write(0, 0, 5);
        Check.deliver(x);
        Check.same("in the place of the old one", x.state(1, 1), 2);
    }

    private static void beatsAreCounted() {
        Run x = new Run();
        Check.steps(x, 0, 8, 8, 8);
        Check.steps(x, 1, 8);
        Check.arrivals(x, 0, 5);
        Check.same("missed", x.state(0, 3), 0);
        Check.same("the other one's", x.state(1, 3), 1);
        Check.steps(x, 0, 8, 8, 8);
        Check.same("paired", x.state(0, 6), 1);
        Check.steps(x, 1, 8);
        Check.steps(x, 0, 8);
        Check.same("alone", x.state(0, 6), 0);
        Check.arrivals(x, 0, 5);
        Check.same("one that is alone takes no notice", x.state(0, 3), 4);
    }

    private static void downOrAloneTakesNoNotice() {
        Run x = new Run();
        x.write(0, 0, 1);
        x.flush(0);
        Check.steps(x, 0, 5);
        x.crash(1);
        Check.arrivals(x, 1, 0, 3, -1);
        Check.same("mirror", x.state(1, 1), 0);
        Check.same("remarks", x.state(1, 12), 0);
        Check.same("no GOT", x.state(0, 2), 0);
        Run y = new Run();
        Check.makeAlone(y, 1);
        y.write(0, 0, 1);
        y.flush(0);
        Check.steps(y, 0, 5);
        Check.arrivals(y, 1, 0, 3, -1);
        Check.same("mirror", y.state(1, 1), 0);
        Check.same("remarks", y.state(1, 12), 0);
        Check.same("no GOT", y.state(0, 2), 0);
    }

    private static void fortyMessages() {
        Run x = new Run();
        for (int i = 0; i < 41; i++) {
            x.write(0, i % 16, i);
        }
        Check.same("at most 40", x.state(1, 2), 40);
        for (int i = 0; i < 40; i++) {
            Check.arrivals(x, 1, 0);
        }
        Check.arrivals(x, 1, -1);
        Check.deliver(x);
        Check.same("the fortieth", x.ticket(39), 1);
        Check.same("one more is lost", x.ticket(40), 0);
        x.write(0, 15, 77);
        Check.deliver(x);
        Check.same("room again", x.ticket(41), 1);
        Check.same("mirror entries", x.state(1, 1), 16);
        Check.takeOverWhole(x, 1);
        Check.same("the lost one is not mirrored", Check.readValue(x, 1, 8), 24);
        Check.same("the last one is", Check.readValue(x, 1, 15), 77);
    }

    private static void eachControllerHasItsOwnForty() {
        Run x = new Run();
        for (int i = 0; i < 45; i++) {
            x.write(0, 0, i);
            x.write(1, 16, i);
        }
        Check.same("to 0", x.state(0, 2), 40);
        Check.same("to 1", x.state(1, 2), 40);
        Check.arrivals(x, 1, 0);
        Check.same("no room for GOT", x.state(0, 2), 40);
        Check.same("the mirror's entry is there", x.state(1, 1), 1);
        Check.arrivals(x, 0, 0);
        Check.same("room for GOT", x.state(1, 2), 40);
        Check.deliver(x);
        Check.same("its GOT was lost", x.ticket(0), 0);
        Check.same("its GOT was not", x.ticket(1), 1);
    }

    private static void cutLinks() {
        Run x = new Run();
        int before = x.write(0, 0, 1);
        x.cut(true);
        int lost = x.write(0, 1, 2);
        x.cut(true);
        Check.steps(x, 0, 8);
        Check.same("those on their way wait", x.state(1, 2), 1);
        Check.arrivals(x, 1, -1);
        Check.arrivals(x, 0, -1);
        Check.same("waits", x.state(1, 2), 1);
        x.cut(false);
        Check.arrivals(x, 1, 0, -1);
        Check.arrivals(x, 0, 1, -1);
        Check.same("done", x.ticket(before), 1);
        Check.same("open", x.ticket(lost), 0);
        x.cut(false);
        Check.same("done", x.ticket(Check.mirrored(x, 0, 1, 3)), 1);
        Check.same("open still", x.ticket(lost), 0);
    }
}
