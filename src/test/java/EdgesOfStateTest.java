/** The edges that the document names for promises 14, flush, and 23, state. */
final class EdgesOfStateTest {
    private static final int[] NO_CONTROLLER = {Integer.MIN_VALUE, -1, 2, 3, 32, Integer.MAX_VALUE};
    private static final int[] NO_WHAT = {Integer.MIN_VALUE, -1, 14, 15, 16, 32, 256, Integer.MAX_VALUE};

    public static void main(String[] args) {
        flushAgain();
        flushOfOneThatIsDown();
        flushOfNoController();
        fewestAndMostDirty();
        fewestAndMostMirrored();
        fewestAndMostMessages();
        fewestAndMostMissed();
        upOrNot();
        destagesOrNone();
        volumesAsBits();
        stripesAsBits();
        noneForOthers();
        noneForNoController();
        Check.end();
    }

    private static void flushAgain() {
        Check.sentence("Promise 14: One is told to flush (again, perhaps)");
        for (int c = 0; c < 2; c++) {
            Run x = new Run();
            Check.no("at first", x.isToFlush(c));
            Check.yes("flush", x.flush(c));
            Check.yes("told", x.isToFlush(c));
            Check.yes("flush again", x.flush(c));
            Check.yes("told", x.isToFlush(c));
            Check.no("the other one", x.isToFlush(1 - c));
            Check.steps(x, c, 7, 8);
            Check.yes("and again", x.flush(c));
            Check.yes("told", x.isToFlush(c));
        }
    }

    private static void flushOfOneThatIsDown() {
        Check.sentence("Promise 14: false when it is down");
        for (int c = 0; c < 2; c++) {
            int controller = c;
            Run x = new Run();
            x.write(1 - c, 16 * (1 - c), 5);
            x.crash(c);
            Check.refused("down", x, 0, y -> Run.bit(y.flush(controller)));
            x.restart(c);
            Check.no("not told", x.isToFlush(c));
            Check.yes("up again", x.flush(c));
        }
    }

    private static void flushOfNoController() {
        Check.sentence("Promise 14 and Terms: Calls with numbers that are not as said are refused");
        Run x = new Run();
        x.write(0, 0, 5);
        x.write(1, 16, 5);
        for (int n : NO_CONTROLLER) {
            Check.refused("controller " + n, x, 0, y -> Run.bit(y.flush(n)));
        }
    }

    /** Controller c owns both volumes and has written all blocks. */
    private static Run withAllWritten(int c) {
        Run x = new Run();
        Check.yes("moveOwner", x.moveOwner(1 - c));
        for (int block = 0; block < 32; block++) {
            Check.same("dirty", x.dirty(c), block);
            x.write(c, block, 1 + block);
        }
        return x;
    }

    private static void fewestAndMostDirty() {
        Check.sentence("Promise 23: How many dirty entries a controller has (what 0)");
        for (int c = 0; c < 2; c++) {
            Run x = withAllWritten(c);
            Check.same("all", x.dirty(c), 32);
            x.write(c, 0, 9);
            Check.same("one twice", x.dirty(c), 32);
            Check.same("the other one", x.dirty(1 - c), 0);
        }
    }

    private static void fewestAndMostMirrored() {
        Check.sentence("Promise 23: mirror entries (1)");
        for (int c = 0; c < 2; c++) {
            Run x = withAllWritten(c);
            for (int block = 0; block < 32; block++) {
                Check.same("mirror", x.mirrored(1 - c), block);
                Check.arrivals(x, 1 - c, 0);
            }
            Check.same("all", x.mirrored(1 - c), 32);
            Check.same("the other one", x.mirrored(c), 0);
        }
    }

    private static void fewestAndMostMessages() {
        Check.sentence("Promise 23: messages on their way to it (2)");
        for (int c = 0; c < 2; c++) {
            Run x = new Run();
            for (int i = 0; i < 42; i++) {
                Check.same("messages", x.messages(1 - c), Math.min(i, 40));
                x.write(c, 16 * c, i);
            }
            Check.same("none back", x.messages(c), 0);
            for (int i = 40; i > 0; i--) {
                Check.same("messages", x.messages(1 - c), i);
                Check.arrivals(x, 1 - c, 0);
            }
            Check.same("messages", x.messages(1 - c), 0);
        }
    }

    private static void fewestAndMostMissed() {
        Check.sentence("Promise 23: missed beats (3)");
        for (int c = 0; c < 2; c++) {
            Run x = new Run();
            for (int i = 0; i < 6; i++) {
                Check.same("missed", x.missedBeats(c), Math.min(i, 4));
                Check.steps(x, c, i < 4 ? 8 : 9);
            }
            Check.same("the other one", x.missedBeats(1 - c), 0);
        }
    }

    private static void upOrNot() {
        Check.sentence(
            "Promise 23: its key (4); 1 or 0 whether it is up (5), paired (6), taking over (7), told to flush (8)");
        for (int c = 0; c < 2; c++) {
            Run x = new Run();
            is(x, c, 1, 1, 1, 0, 0);
            x.flush(c);
            is(x, c, 1, 1, 1, 0, 1);
            x.takeOver(c);
            is(x, c, 2, 1, 0, 1, 1);
            Check.steps(x, c, 2, 2, 2, 2, 2);
            is(x, c, 2, 1, 0, 1, 1);
            Check.steps(x, c, 2);
            is(x, c, 2, 1, 0, 0, 1);
            x.crash(c);
            is(x, c, 2, 0, 0, 0, 0);
            is(x, 1 - c, 1, 1, 1, 0, 0);
        }
    }

    private static void is(Run x, int c, int key, int up, int paired, int takesOver, int toFlush) {
        int[] due = {key, up, paired, takesOver, toFlush};
        for (int i = 0; i < due.length; i++) {
            Check.same("state " + (4 + i), x.state(c, 4 + i), due[i]);
        }
    }

    private static void destagesOrNone() {
        Check.sentence("Promise 23: the stripe it destages or NONE (9)");
        for (int stripe = 0; stripe < 8; stripe++) {
            int owner = stripe / 4;
            Run x = new Run();
            x.write(owner, 4 * stripe, 5);
            x.flush(owner);
            Check.same("not yet", x.destages(owner), Run.NONE);
            for (int step : new int[] {5, 4, 1, 4, 1}) {
                Check.steps(x, owner, step);
                Check.same("destages", x.destages(owner), stripe);
                Check.same("the other one", x.destages(1 - owner), Run.NONE);
            }
            Check.steps(x, owner, 4);
            Check.same("no more", x.destages(owner), Run.NONE);
        }
    }

    private static void volumesAsBits() {
        Check.sentence("Promise 23: the volumes it owns (10: 1 for volume 0, 2 for volume 1)");
        Run x = new Run();
        Check.same("0", x.owns(0), 1);
        Check.same("1", x.owns(1), 2);
        x.moveOwner(1);
        Check.same("both", x.owns(0), 3);
        Check.same("none", x.owns(1), 0);
        x.moveOwner(0);
        Check.same("volume 1", x.owns(0), 2);
        Check.same("volume 0", x.owns(1), 1);
    }

    /** Controller c brings all stripes to the disks, and its partner takes over from it. */
    private static void stripesAsBits() {
        Check.sentence("Promise 23: notes (11), remarks (12), stripes to be repaired (13), as bits");
        for (int c = 0; c < 2; c++) {
            int partner = 1 - c;
            Run x = new Run();
            Check.yes("moveOwner", x.moveOwner(partner));
            for (int stripe = 0; stripe < 8; stripe++) {
                Check.mirrored(x, c, 4 * stripe, 5);
            }
            x.flush(c);
            for (int stripe = 0; stripe < 8; stripe++) {
                Check.same("notes", x.notes(c), (1 << stripe) - 1);
                Check.same("remarks", x.remarks(partner), (1 << stripe) - 1);
                Check.steps(x, c, 5, 4, 1, 4, 1, 4);
                Check.deliver(x);
            }
            Check.same("notes", x.notes(c), 255);
            Check.same("remarks", x.remarks(partner), 255);
            Check.same("the others", x.remarks(c) + x.notes(partner) + x.repairs(c) + x.repairs(partner), 0);
            Check.takeOverWhole(x, partner);
            Check.same("notes", x.notes(partner), 255);
            Check.same("to be repaired", x.repairs(partner), 255);
            Check.same("remarks", x.remarks(partner), 0);
        }
    }

    private static void noneForOthers() {
        Check.sentence("Promise 23: NONE for others");
        Run x = new Run();
        Check.mirrored(x, 0, 0, 5);
        x.flush(0);
        Check.steps(x, 0, 5);
        for (int what : NO_WHAT) {
            Check.refused("what " + what, x, Run.NONE, y -> y.state(0, what), y -> y.state(1, what));
        }
        Check.same("the first one", x.state(0, 0), 1);
        Check.same("the last one", x.state(0, 13), 0);
        x.crash(1);
        for (int what : NO_WHAT) {
            Check.refused("down, what " + what, x, Run.NONE, y -> y.state(1, what));
        }
    }

    private static void noneForNoController() {
        Check.sentence("Promise 23: NONE for others");
        Run x = new Run();
        for (int n : NO_CONTROLLER) {
            Check.refused("controller " + n, x, Run.NONE, y -> y.state(n, 0), y -> y.state(n, 4), y -> y.state(n, 13),
                y -> y.state(n, -1), y -> y.state(n, 14));
        }
    }
}
