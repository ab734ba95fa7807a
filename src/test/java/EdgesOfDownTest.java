/** The edges that the document names for a controller that goes down: Terms, promises 9, 10, 18 and 19. */
final class EdgesOfDownTest {
    private static final int[] NO_CONTROLLER = {Integer.MIN_VALUE, -1, 2, 3, 32, Integer.MAX_VALUE};

    public static void main(String[] args) {
        keepsItsKeyAlone();
        lateOnlyIfUnderWay();
        lateWithTheKeyItBeganWith();
        twentyLatesAndOneMore();
        twentyLatesOfBoth();
        roomForLatesAgain();
        itsOpenTicketsAreRefused();
        messagesToItStay();
        crashOfOneThatIsDown();
        crashOfNoController();
        restartOfOneThatIsUp();
        restartOfNoController();
        restartedIsAsSaid();
        lateLandsByItsKey();
        lateOnALostDisk();
        lateWithAnotherKey();
        lateIsGoneThen();
        lateInTheirOrder();
        lateWithTheKeyOfItsOwn();
        lateThatThereIsNot();
        latesAreCounted();
        Check.end();
    }

    /** Controller 0 goes down with a write of a block of its volume under way, and comes up again, paired. */
    private static void addLate(Run x, int block, int value) {
        beginWrite(x, block, value);
        x.crash(0);
        x.restart(0);
        Check.yes("pair", x.pair());
    }

    private static void beginWrite(Run x, int block, int value) {
        x.write(0, block, value);
        x.flush(0);
        Check.steps(x, 0, 5, 4);
    }

    private static Run withLates(int count) {
        Run x = new Run();
        for (int i = 0; i < count; i++) {
            addLate(x, i % 16, 100 + i);
        }
        return x;
    }

    /** Between them the runs have each of the fourteen states of controller 1 other than those of one that is down. */
    private static void keepsItsKeyAlone() {
        Check.sentence("Terms: A controller that GOES DOWN (fenced or crashed) keeps its key alone");
        Run taking = withMirrorAndRemark();
        taking.flush(1);
        Check.yes("takeOver", taking.takeOver(1));
        Check.yes("crash", taking.crash(1));
        isDownWithKey2(taking);
        Run owning = withMirrorAndRemark();
        Check.takeOverWhole(owning, 1);
        owning.write(1, 16, 4);
        Check.yes("crash", owning.crash(1));
        isDownWithKey2(owning);
        Run destaging = withMirrorAndRemark();
        Check.takeOverWhole(destaging, 1);
        Check.steps(destaging, 1, 3, 1, 5);
        Check.yes("crash", destaging.crash(1));
        isDownWithKey2(destaging);
        Run fenced = withMirrorAndRemark();
        Check.loseAll(fenced, 3);
        fenced.takeOver(1);
        Check.steps(fenced, 1, 2, 2, 2, 2);
        isDownWithKey2(fenced);
    }

    /** Controller 1 has missed two beats, has a mirror entry and a remark. */
    private static Run withMirrorAndRemark() {
        Run x = new Run();
        Check.steps(x, 1, 8, 8);
        x.write(0, 0, 5);
        x.flush(0);
        Check.steps(x, 0, 5);
        Check.deliverTo(x, 1);
        Check.same("missed, mirror, remarks", x.missedBeats(1) * 100 + x.mirrored(1) * 10 + x.remarks(1), 211);
        return x;
    }

    private static void isDownWithKey2(Run x) {
        int[] down = {0, 0, 0, 0, 2, 0, 0, 0, 0, Run.NONE, 0, 0, 0, 0};
        for (int what = 0; what < down.length; what++) {
            Check.same("state " + what, x.state(1, what), down[what]);
        }
        Check.yes("restart", x.restart(1));
        Check.steps(x, 1, 9);
    }

    private static void lateOnlyIfUnderWay() {
        Check.sentence("Terms: a disk write it had under way is LATE");
        int[] steps = {5, 4, 1, 4, 1, 4, 6, 7};
        int[] due = {0, 0, 1, 0, 1, 0, 0, 0, 0};
        for (int done = 0; done <= steps.length; done++) {
            Run x = new Run();
            x.write(0, 0, 5);
            x.flush(0);
            for (int i = 0; i < done; i++) {
                Check.steps(x, 0, steps[i]);
            }
            x.crash(0);
            Check.same("lates after " + done + " steps", x.lates(), due[done]);
        }
        Run repairing = new Run();
        repairing.write(0, 0, 5);
        repairing.flush(0);
        Check.steps(repairing, 0, 5, 4, 1);
        Check.deliver(repairing);
        Check.takeOverWhole(repairing, 1);
        Check.steps(repairing, 1, 3);
        repairing.crash(1);
        Check.same("a repair's", repairing.lates(), 1);
        Check.same("late", repairing.late(0), 1);
        Check.same("parity", repairing.onDisk(4, 0), 5);
    }

    /** The controller may have a new key by then, which its partner may come to have, too. */
    private static void lateWithTheKeyItBeganWith() {
        Check.sentence(
            "Terms: a disk write it had under way is LATE, with that key ... had still under way is refused by them");
        Run before = new Run();
        beginWrite(before, 0, 9);
        before.takeOver(0);
        before.crash(0);
        Check.same("the disk has the key of then", before.late(0), 1);
        Check.same("landed", Check.onDisk(before, 0), 9);
        Run behind = new Run();
        beginWrite(behind, 0, 9);
        behind.takeOver(0);
        behind.crash(0);
        Check.takeOverWhole(behind, 1);
        Check.same("both have the key of the disks", behind.key(0) * 10 + behind.keyOf(0), 22);
        Check.same("refused", behind.late(0), 0);
        Check.same("nothing landed", Check.onDisk(behind, 0), 0);
    }

    private static void twentyLatesAndOneMore() {
        Check.sentence("Terms: (at most 20; others are lost)");
        Run x = withLates(19);
        Check.same("nineteen", x.lates(), 19);
        addLate(x, 3, 119);
        Check.same("twenty", x.lates(), 20);
        addLate(x, 4, 120);
        Check.same("one more", x.lates(), 20);
        addLate(x, 5, 121);
        Check.same("two more", x.lates(), 20);
        for (int i = 0; i < 20; i++) {
            Check.same("lands", x.late(0), 1);
            Check.same("in its place", Check.onDisk(x, i % 16), 100 + i);
        }
        Check.same("no more", x.late(0), Run.NONE);
        Check.same("the first that was lost", Check.onDisk(x, 4), 104);
    }

    private static void twentyLatesOfBoth() {
        Check.sentence("Terms: (at most 20; others are lost)");
        Run x = withLates(19);
        for (int i = 0; i < 2; i++) {
            x.write(1, 16 + i, 150 + i);
            x.flush(1);
            Check.steps(x, 1, 5, 4);
            x.crash(1);
            x.restart(1);
            Check.yes("pair", x.pair());
            Check.yes("back to 1", x.moveOwner(1));
            Check.same("lates", x.lates(), 20);
        }
        Check.same("the twentieth", x.late(19), 1);
        Check.same("of the other controller", Check.onDisk(x, 16), 150);
        Check.same("one more of it was lost", x.late(19), Run.NONE);
        Check.same("nothing landed", Check.onDisk(x, 17), 0);
    }

    private static void roomForLatesAgain() {
        Check.sentence("Terms: (at most 20; others are lost)");
        Run x = withLates(20);
        Check.same("lands", x.late(7), 1);
        Check.same("nineteen", x.lates(), 19);
        addLate(x, 15, 200);
        Check.same("twenty", x.lates(), 20);
        Check.same("the new one is the last", x.late(19), 1);
        Check.same("block", Check.onDisk(x, 15), 200);
    }

    private static void itsOpenTicketsAreRefused() {
        Check.sentence("Terms: its open tickets are refused");
        Run x = new Run();
        int done = Check.mirrored(x, 0, 0, 1);
        int read = x.read(0, 1);
        int others = x.write(1, 31, 2);
        int othersDone = x.read(1, 16);
        int first = x.write(0, 0, 3);
        int last = x.write(0, 15, 4);
        x.crash(0);
        Check.same("done", x.ticket(done), 1);
        Check.same("read", x.ticket(read), 1);
        Check.same("the other one's is open", x.ticket(others), 0);
        Check.same("the other one's is done", x.ticket(othersDone), 1);
        Check.same("open", x.ticket(first), 2);
        Check.same("open", x.ticket(last), 2);
        Run full = new Run();
        for (int i = 0; i < 200; i++) {
            full.write(i % 2, 16 * (i % 2), i);
        }
        full.crash(1);
        for (int i : new int[] {0, 1, 2, 197, 198, 199}) {
            Check.same("ticket " + i, full.ticket(i), i % 2 == 1 ? 2 : 0);
        }
    }

    private static void messagesToItStay() {
        Check.sentence("Terms: messages to it stay");
        for (int count = 0; count <= 40; count += 20) {
            Run x = new Run();
            for (int i = 0; i < count; i++) {
                x.write(0, i % 16, 1);
            }
            x.crash(1);
            Check.same("messages", x.messages(1), count);
            for (int i = 0; i < count; i++) {
                Check.arrivals(x, 1, 0);
            }
            Check.arrivals(x, 1, Run.NONE);
        }
    }

    private static void crashOfOneThatIsDown() {
        Check.sentence("Promise 9: false when it is down");
        for (int c = 0; c < 2; c++) {
            int controller = c;
            Run x = withLates(2);
            x.write(1 - c, 16 * (1 - c), 5);
            Check.yes("crash", x.crash(c));
            Check.refused("down", x, 0, y -> Run.bit(y.crash(controller)));
            x.restart(c);
            Check.yes("up again", x.crash(c));
        }
        Run fenced = new Run();
        fenced.takeOver(0);
        fenced.read(0, 0);
        Check.refused("fenced", fenced, 0, y -> Run.bit(y.crash(0)));
    }

    private static void crashOfNoController() {
        Check.sentence("Promise 9 and Terms: Calls with numbers that are not as said are refused");
        Run x = withLates(1);
        beginWrite(x, 3, 7);
        for (int n : NO_CONTROLLER) {
            Check.refused("controller " + n, x, 0, y -> Run.bit(y.crash(n)));
        }
    }

    private static void restartOfOneThatIsUp() {
        Check.sentence("Promise 10: False when it is up");
        for (int c = 0; c < 2; c++) {
            int controller = c;
            Run x = withLates(1);
            Check.mirrored(x, 0, 4, 6);
            x.write(0, 5, 7);
            Check.steps(x, 1, 8);
            Check.refused("up", x, 0, y -> Run.bit(y.restart(controller)));
            x.crash(c);
            Check.yes("down", x.restart(c));
            Check.refused("up again", x, 0, y -> Run.bit(y.restart(controller)));
        }
    }

    private static void restartOfNoController() {
        Check.sentence("Promise 10 and Terms: Calls with numbers that are not as said are refused");
        Run x = withLates(1);
        x.write(1, 16, 6);
        for (int c = 0; c < 2; c++) {
            x.crash(c);
            for (int n : NO_CONTROLLER) {
                Check.refused("controller " + n, x, 0, y -> Run.bit(y.restart(n)));
            }
        }
    }

    private static void restartedIsAsSaid() {
        Check.sentence(
            "Promise 10: alone, owning nothing, no beats missed, with the key it had; messages to it are gone");
        for (int count = 0; count <= 40; count += 40) {
            Run x = new Run();
            Check.steps(x, 1, 8, 8, 8);
            Check.takeOverWhole(x, 1);
            x.crash(1);
            for (int i = 0; i < count; i++) {
                x.write(0, i % 16, 1);
            }
            int[] due = {0, 0, count, 0, 2, 0, 0, 0, 0, Run.NONE, 0, 0, 0, 0};
            for (int what = 0; what < due.length; what++) {
                Check.same("down, state " + what, x.state(1, what), due[what]);
            }
            Check.yes("restart", x.restart(1));
            due[2] = 0;
            due[5] = 1;
            for (int what = 0; what < due.length; what++) {
                Check.same("state " + what, x.state(1, what), due[what]);
            }
            Check.arrivals(x, 1, Run.NONE);
            Check.same("messages to the other one stay", x.messages(0), 3);
            x.write(0, 0, 9);
            Check.arrivals(x, 1, 0, Run.NONE);
        }
    }

    private static void lateLandsByItsKey() {
        Check.sentence("Promise 18: Late write k ... lands: 1");
        Run x = withLates(1);
        Check.same("lands", x.late(0), 1);
        Check.same("landed", x.onDisk(0, 0), 100);
        Run anew = withLates(1);
        anew.lose(0);
        anew.replace(0);
        Check.same("lands", anew.late(0), 1);
        Check.same("not missing any more", anew.onDisk(0, 0), 100);
        Check.noSuchElement("missing still", () -> anew.onDisk(0, 1));
    }

    private static void lateOnALostDisk() {
        Check.sentence("Promise 18: 0 when the disk is lost");
        Run x = withLates(2);
        x.lose(0);
        Check.same("lost", x.late(0), 0);
        x.replace(0);
        Check.noSuchElement("nothing landed", () -> x.onDisk(0, 0));
        Check.same("the disk beside it", x.late(0), 1);
    }

    /** Disks 0 .. taken - 1 have another key than the late writes of blocks 0, 1, 2, 3 on disks 0, 1, 2, 3. */
    private static void lateWithAnotherKey() {
        Check.sentence("Promise 18: 0 when the disk ... has another key than the write");
        for (int taken = 0; taken <= 4; taken++) {
            Run x = withLates(4);
            x.takeOver(1);
            for (int i = 0; i < taken; i++) {
                Check.steps(x, 1, 2);
            }
            for (int block = 0; block < 4; block++) {
                Check.same("taken " + taken + ", block " + block, x.late(0), block < taken ? 0 : 1);
                Check.same("block " + block, Check.onDisk(x, block), block < taken ? 0 : 100 + block);
            }
        }
        Run lesser = withLates(1);
        Check.loseAll(lesser, 31);
        lesser.replace(0);
        Check.same("a lesser key", lesser.keyOf(0), 0);
        Check.same("refused", lesser.late(0), 0);
        Check.noSuchElement("nothing landed", () -> lesser.onDisk(0, 0));
    }

    private static void lateIsGoneThen() {
        Check.sentence("Promise 18: It is gone then");
        Run landed = withLates(1);
        Check.same("late", landed.late(0), 1);
        Check.same("gone", landed.lates(), 0);
        Check.refused("gone", landed, Run.NONE, y -> y.late(0));
        Run lost = withLates(1);
        lost.lose(0);
        Check.same("late", lost.late(0), 0);
        Check.same("gone", lost.lates(), 0);
        lost.replace(0);
        Check.refused("gone", lost, Run.NONE, y -> y.late(0));
        Run refused = withLates(1);
        refused.takeOver(1);
        Check.steps(refused, 1, 2);
        Check.same("late", refused.late(0), 0);
        Check.same("gone", refused.lates(), 0);
        Check.refused("gone", refused, Run.NONE, y -> y.late(0));
    }

    private static void lateInTheirOrder() {
        Check.sentence("Promise 18: Late write k (from 0 on, in their order)");
        for (int k = 0; k < 4; k++) {
            Run x = withLates(4);
            Check.same("lands", x.late(k), 1);
            for (int block = 0; block < 4; block++) {
                Check.same("block " + block, Check.onDisk(x, block), block == k ? 100 + k : 0);
            }
            for (int block = 0; block < 4; block++) {
                if (block != k) {
                    Check.same("the next one", x.late(0), 1);
                    Check.same("block " + block, Check.onDisk(x, block), 100 + block);
                }
            }
        }
    }

    /** Writes of keys 1, 2 and 3; the disks have key 3. */
    private static void lateWithTheKeyOfItsOwn() {
        Check.sentence("Promise 18: 0 when the disk ... has another key than the write");
        for (int first = 0; first < 3; first++) {
            Run x = new Run();
            for (int i = 0; i < 3; i++) {
                beginWrite(x, i, 100 + i);
                x.crash(0);
                x.restart(0);
                if (i < 2) {
                    Check.takeOverWhole(x, 0);
                }
                Check.yes("pair", x.pair());
            }
            Check.same("key", x.keyOf(0), 3);
            Check.same("the key of write " + first, x.late(first), first == 2 ? 1 : 0);
            for (int i = 0; i < 3; i++) {
                if (i != first) {
                    Check.same("then the key of write " + i, x.late(0), i == 2 ? 1 : 0);
                }
            }
        }
    }

    private static void lateThatThereIsNot() {
        Check.sentence("Promise 18: NONE: there is none");
        for (int count : new int[] {0, 1, 2, 20}) {
            Run x = withLates(count);
            for (int k : new int[] {Integer.MIN_VALUE, -1, count, count + 1, 20, Integer.MAX_VALUE}) {
                Check.refused(count + " lates, late " + k, x, Run.NONE, y -> y.late(k));
            }
            if (count > 0) {
                Check.same("the last one", x.late(count - 1), 1);
                Check.refused("no more the last one", x, Run.NONE, y -> y.late(count - 1));
            }
        }
    }

    private static void latesAreCounted() {
        Check.sentence("Promise 19: How many late writes there are");
        Run x = new Run();
        Check.same("none", x.lates(), 0);
        for (int i = 1; i <= 22; i++) {
            addLate(x, i % 16, i);
            Check.same("lates", x.lates(), Math.min(i, 20));
        }
    }
}
