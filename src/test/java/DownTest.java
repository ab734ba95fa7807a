/** Promises 9, 10, 18 and 19: crash, restart, late, lates. */
final class DownTest {
    public static void main(String[] args) {
        crashesOfNone();
        keepsItsKeyAlone();
        restarts();
        repairsAreForgotten();
        refusesItsOwnOpenTicketsOnly();
        refusedStaysRefused();
        refusesAmongTwoHundred();
        lateWriteLands();
        lateWriteIsRefusedByKey();
        lateWriteOnLostDisk();
        lateWriteOnNewDisk();
        lateWriteHasTheKeyItBeganWith();
        lateWriteIsRefusedByPartnersEqualKey();
        lateWriteIsRefusedByItsOwnersNextKey();
        latesInTheirOrder();
        latesOfManyStripesAndKeys();
        twentyLates();
        Check.end();
    }

    private static void crashesOfNone() {
        Run x = new Run();
        String before = Probe.looks(x);
        for (int c : new int[] {-1, 2, Integer.MAX_VALUE, Integer.MIN_VALUE}) {
            Check.no("crash", x.crash(c));
            Check.no("restart", x.restart(c));
        }
        Check.no("restart of one that is up", x.restart(0));
        Check.same("changed nothing", Probe.looks(x), before);
        Check.yes("crash", x.crash(0));
        Check.no("crash of one that is down", x.crash(0));
        Check.same("the other one is up", x.state(1, 5), 1);
        Check.same("the other one is paired", x.state(1, 6), 1);
    }

    private static Run withAllOfOne() {
        Run x = new Run();
        Check.mirrored(x, 0, 0, 5);
        x.flush(0);
        Check.steps(x, 0, 5);
        Check.deliver(x);
        Check.takeOverWhole(x, 1);
        x.write(1, 16, 4);
        x.flush(1);
        Check.steps(x, 1, 3, 1, 5, 4);
        return x;
    }

    private static void keepsItsKeyAlone() {
        Run x = withAllOfOne();
        Check.yes("crash", x.crash(1));
        int[] due = {0, 0, 0, 0, 2, 0, 0, 0, 0, -1, 0, 0, 0, 0};
        for (int what = 0; what < due.length; what++) {
            Check.same("state " + what, x.state(1, what), due[what]);
        }
        Check.same("late", x.lates(), 1);
        Run y = new Run();
        Check.mirrored(y, 1, 22, 3);
        y.flush(1);
        Check.steps(y, 1, 5);
        Check.deliver(y);
        Check.steps(y, 0, 8, 8);
        y.takeOver(0);
        Check.steps(y, 0, 2);
        Check.steps(y, 1, 4, 1, 4, 1, 4);
        Check.same("mirror, remarks, beats, taking over",
            y.state(0, 1) + y.state(0, 12) + y.state(0, 3) + y.state(0, 7), 1 + 32 + 2 + 1);
        y.crash(0);
        Check.same("none of them", y.state(0, 1) + y.state(0, 12) + y.state(0, 3) + y.state(0, 7), 0);
        Check.same("messages to it stay", y.state(0, 2), 1);
        Check.same("no late write", y.lates(), 0);
        y.restart(0);
        Check.same("messages to it are gone", y.state(0, 2), 0);
        Check.same("messages to the other one stay", y.state(1, 2), 2);
        Check.steps(y, 0, 9);
    }

    private static void restarts() {
        Run x = withAllOfOne();
        x.crash(1);
        x.write(0, 1, 6);
        Check.same("messages", x.state(1, 2), 1);
        Check.yes("restart", x.restart(1));
        Check.no("restart again", x.restart(1));
        int[] due = {0, 0, 0, 0, 2, 1, 0, 0, 0, -1, 0, 0, 0, 0};
        for (int what = 0; what < due.length; what++) {
            Check.same("state " + what, x.state(1, what), due[what]);
        }
        Check.steps(x, 1, 9);
        Check.same("owns nothing", x.ticket(x.read(1, 16)), 2);
    }

    private static void repairsAreForgotten() {
        Run x = new Run();
        Check.mirrored(x, 0, 0, 5);
        x.flush(0);
        Check.steps(x, 0, 5);
        Check.deliver(x);
        Check.takeOverWhole(x, 1);
        Check.same("to be repaired", x.state(1, 13), 1);
        x.crash(1);
        Check.same("to be repaired", x.state(1, 13), 0);
        x.restart(1);
        Check.steps(x, 1, 9);
    }

    private static void refusedStaysRefused() {
        Run x = new Run();
        int never = x.write(0, 16, 4);
        int open = x.write(0, 0, 5);
        x.crash(0);
        x.restart(0);
        Check.yes("pair", x.pair());
        Check.makeAlone(x, 0);
        int t = x.write(0, 0, 6);
        Check.steps(x, 0, 5, 4, 1, 4, 1, 4);
        Check.same("done", x.ticket(t), 1);
        Check.same("refused", x.ticket(open), 2);
        Check.same("refused", x.ticket(never), 2);
    }

    private static void refusesAmongTwoHundred() {
        Run x = new Run();
        Check.makeAlone(x, 0);
        for (int t = 0; t < 200; t++) {
            x.write(0, t % 2, t);
        }
        Check.steps(x, 0, 5, 4, 1, 4, 1, 4, 1, 4);
        Check.same("done", x.ticket(0), 1);
        Check.same("done", x.ticket(199), 1);
        Check.yes("crash", x.crash(0));
        Check.same("done", x.ticket(199), 1);
        Run y = new Run();
        for (int t = 0; t < 200; t++) {
            y.write(0, t % 16, t);
        }
        Check.yes("crash", y.crash(0));
        Check.same("refused", y.ticket(0), 2);
        Check.same("refused", y.ticket(199), 2);
    }

    private static void refusesItsOwnOpenTicketsOnly() {
        Run x = new Run();
        int done = Check.mirrored(x, 0, 0, 5);
        int open = x.write(0, 1, 6);
        int others = x.write(1, 16, 7);
        x.crash(0);
        Check.same("done", x.ticket(done), 1);
        Check.same("refused", x.ticket(open), 2);
        Check.same("its value", x.value(open), 6);
        Check.same("the other one's is open", x.ticket(others), 0);
    }

    /** Controller 0 has a write of a block of its volume under way, with the value 9. */
    private static Run withWriteUnderWay(int block) {
        Run x = new Run();
        beginWrite(x, block, 9);
        return x;
    }

    private static void beginWrite(Run x, int block, int value) {
        x.write(0, block, value);
        x.flush(0);
        Check.steps(x, 0, 5, 4);
    }

    private static void lateWriteLands() {
        Run x = withWriteUnderWay(6);
        Check.same("none late", x.late(0), Run.NONE);
        x.crash(0);
        Check.same("lates", x.lates(), 1);
        for (int k : new int[] {-1, 1, 20, Integer.MAX_VALUE, Integer.MIN_VALUE}) {
            Check.same("late", x.late(k), Run.NONE);
        }
        Check.same("lates", x.lates(), 1);
        Check.same("not landed", Check.onDisk(x, 6), 0);
        Check.same("late", x.late(0), 1);
        Check.same("landed", Check.onDisk(x, 6), 9);
        Check.same("gone", x.lates(), 0);
        Check.same("late", x.late(0), Run.NONE);
        Check.same("without its parity", x.parityGood(1), 0);
    }

    private static void lateWriteIsRefusedByKey() {
        Run x = withWriteUnderWay(6);
        x.crash(0);
        x.takeOver(1);
        Check.steps(x, 1, 2, 2, 2);
        Check.same("late", x.late(0), 0);
        Check.same("gone", x.lates(), 0);
        Check.same("not landed", Check.onDisk(x, 6), 0);
        Run y = withWriteUnderWay(6);
        y.crash(0);
        y.takeOver(1);
        Check.steps(y, 1, 2, 2);
        Check.same("its disk has the old key", y.late(0), 1);
    }

    private static void lateWriteOnLostDisk() {
        Run x = withWriteUnderWay(0);
        x.crash(0);
        x.lose(0);
        Check.same("late", x.late(0), 0);
        Check.same("gone", x.lates(), 0);
        x.replace(0);
        Check.noSuchElement("missing", () -> x.onDisk(0, 0));
    }

    private static void lateWriteOnNewDisk() {
        Run x = withWriteUnderWay(0);
        x.crash(0);
        x.lose(0);
        x.replace(0);
        Check.same("late", x.late(0), 1);
        Check.same("not missing any more", x.onDisk(0, 0), 9);
    }

    private static void lateWriteHasTheKeyItBeganWith() {
        Run x = withWriteUnderWay(0);
        x.takeOver(0);
        x.crash(0);
        Check.same("the key that the controller keeps", x.state(0, 4), 2);
        Check.same("the disk's key", x.keyOf(0), 1);
        Check.same("late", x.late(0), 1);
        Check.same("landed", Check.onDisk(x, 0), 9);
    }

    /** Both controllers come to key 2, the one that goes down without any disk. */
    private static void lateWriteIsRefusedByPartnersEqualKey() {
        Run crashed = withWriteUnderWay(0);
        crashed.takeOver(0);
        crashed.crash(0);
        refusedOnceOneHasTakenOver(crashed);
        Run restarted = withWriteUnderWay(0);
        restarted.takeOver(0);
        restarted.crash(0);
        restarted.restart(0);
        refusedOnceOneHasTakenOver(restarted);
        Run fenced = withWriteUnderWay(0);
        fenced.takeOver(0);
        Check.same("refused", fenced.ticket(fenced.read(0, 0)), 2);
        Check.same("fenced by its own new key", fenced.state(0, 5), 0);
        refusedOnceOneHasTakenOver(fenced);
    }

    private static void refusedOnceOneHasTakenOver(Run x) {
        Check.same("lates", x.lates(), 1);
        Check.takeOverWhole(x, 1);
        Check.same("the key that controller 0 keeps", x.state(0, 4), 2);
        Check.same("the disk's key", x.keyOf(0), 2);
        Check.same("late", x.late(0), 0);
        Check.same("gone", x.lates(), 0);
        Check.same("not landed", Check.onDisk(x, 0), 0);
    }

    private static void lateWriteIsRefusedByItsOwnersNextKey() {
        Run x = withWriteUnderWay(0);
        x.takeOver(0);
        x.crash(0);
        x.restart(0);
        Check.takeOverWhole(x, 0);
        Check.same("the disk's key", x.keyOf(0), 3);
        Check.same("late", x.late(0), 0);
        Check.same("not landed", Check.onDisk(x, 0), 0);
    }

    private static void latesInTheirOrder() {
        Run x = new Run();
        for (int i = 0; i < 4; i++) {
            beginWrite(x, i, 20 + i);
            x.crash(0);
            x.restart(0);
            Check.yes("pair", x.pair());
        }
        Check.same("lates", x.lates(), 4);
        Check.same("late", x.late(1), 1);
        Check.same("block 1", Check.onDisk(x, 1), 21);
        Check.same("late, the next one in its place", x.late(1), 1);
        Check.same("block 2", Check.onDisk(x, 2), 22);
        Check.same("block 0", Check.onDisk(x, 0), 0);
        Check.same("block 3", Check.onDisk(x, 3), 0);
        Check.same("late", x.late(2), Run.NONE);
        Check.same("late", x.late(1), 1);
        Check.same("block 3", Check.onDisk(x, 3), 23);
        Check.same("late", x.late(0), 1);
        Check.same("block 0", Check.onDisk(x, 0), 20);
        Check.same("lates", x.lates(), 0);
    }

    private static void latesOfManyStripesAndKeys() {
        Run x = new Run();
        for (int stripe = 0; stripe < 4; stripe++) {
            beginWrite(x, 4 * stripe, 30 + stripe);
            x.crash(0);
            x.restart(0);
            Check.takeOverWhole(x, 0);
            Check.yes("pair", x.pair());
        }
        beginWrite(x, 1, 40);
        x.crash(0);
        beginWriteOfOne(x);
        Check.same("lates", x.lates(), 6);
        Check.same("the disks' key", x.keyOf(0), 5);
        Check.same("an old key", x.late(1), 0);
        Check.same("an old key", x.late(2), 0);
        Check.same("the key of the disks", x.late(2), 1);
        Check.same("the key of the disks", x.late(2), 1);
        Check.same("an old key", x.late(1), 0);
        Check.same("an old key", x.late(0), 0);
        Check.same("lates", x.lates(), 0);
        Check.same("block 1", Check.onDisk(x, 1), 40);
        Check.same("block 30", Check.onDisk(x, 30), 50);
        for (int stripe = 0; stripe < 4; stripe++) {
            Check.same("block of an old key", Check.onDisk(x, 4 * stripe), 0);
        }
    }

    /** Controller 1 gets its volume back from the other one, and goes down with a write of block 30 under way. */
    private static void beginWriteOfOne(Run x) {
        x.restart(0);
        Check.yes("pair", x.pair());
        Check.yes("moveOwner", x.moveOwner(1));
        x.write(1, 30, 50);
        x.flush(1);
        Check.steps(x, 1, 5, 4);
        x.crash(1);
    }

    private static void twentyLates() {
        Run x = new Run();
        for (int i = 0; i < 21; i++) {
            Check.same("lates", x.lates(), Math.min(i, 20));
            beginWrite(x, i % 16, 100 + i);
            x.crash(0);
            x.restart(0);
            Check.yes("pair", x.pair());
        }
        Check.same("at most 20", x.lates(), 20);
        Check.same("late", x.late(20), Run.NONE);
        Check.same("late", x.late(19), 1);
        Check.same("the twentieth", Check.onDisk(x, 3), 119);
        Check.same("the next one was lost", Check.onDisk(x, 4), 0);
        beginWrite(x, 4, 200);
        x.crash(0);
        Check.same("room again", x.late(19), 1);
        Check.same("block 4", Check.onDisk(x, 4), 200);
    }
}
