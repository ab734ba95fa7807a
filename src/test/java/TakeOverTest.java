/** Promise 12, takeOver, and the steps 2 and 3 that follow it. */
final class TakeOverTest {
    public static void main(String[] args) {
        refusals();
        begins();
        keyIsOneMoreThanTheGreatest();
        diskByDisk();
        fourDisksAreEnough();
        threeDisksAreNot();
        disksThatComeAndGoMeanwhile();
        mirrorBecomesDirty();
        mirrorVersionsAreNew();
        remarksAreRepaired();
        repairsOfMissingBlocksAreLeftOut();
        notesThatAreToBeRepairedStay();
        againAndAgain();
        againBeforeRepairs();
        againWithFewerDisks();
        Check.end();
    }

    private static void refusals() {
        Run x = new Run();
        String before = Probe.looks(x);
        for (int c : new int[] {-1, 2, Integer.MAX_VALUE, Integer.MIN_VALUE}) {
            Check.no("takeOver", x.takeOver(c));
        }
        Check.same("changed nothing", Probe.looks(x), before);
        x.crash(1);
        Check.no("down", x.takeOver(1));
        Check.yes("takeOver", x.takeOver(0));
        Check.no("takes over already", x.takeOver(0));
        Check.same("key", x.state(0, 4), 2);
        Check.steps(x, 0, 2, 2, 2, 2, 2);
        Check.no("takes over still", x.takeOver(0));
        Check.steps(x, 0, 2);
        Check.yes("takes over no more", x.takeOver(0));
    }

    private static void begins() {
        Run x = new Run();
        Check.steps(x, 0, 8, 8);
        Check.yes("takeOver", x.takeOver(0));
        Check.same("alone", x.state(0, 6), 0);
        Check.same("key", x.state(0, 4), 2);
        Check.same("taking over", x.state(0, 7), 1);
        Check.same("up", x.state(0, 5), 1);
        Check.same("owns", x.state(0, 10), 1);
        Check.same("missed beats", x.state(0, 3), 2);
        Check.same("the other one is paired", x.state(1, 6), 1);
        Check.same("the other one's key", x.state(1, 4), 1);
        Check.same("messages stay", x.state(1, 2), 2);
        for (int d = 0; d < 5; d++) {
            Check.same("no disk's key yet", x.keyOf(d), 1);
        }
    }

    private static void keyIsOneMoreThanTheGreatest() {
        Run x = new Run();
        x.takeOver(0);
        Check.steps(x, 0, 2, 2, 2, 2);
        x.lose(4);
        x.takeOver(1);
        Check.same("than the disks'", x.state(1, 4), 3);
        x.crash(1);
        x.restart(1);
        x.takeOver(1);
        Check.same("than its own", x.state(1, 4), 4);
        Run y = new Run();
        y.takeOver(0);
        Check.steps(y, 0, 2);
        y.lose(0);
        y.takeOver(1);
        Check.same("a lost disk's key does not count", y.state(1, 4), 2);
        Run z = new Run();
        for (int d = 0; d < 5; d++) {
            z.lose(d);
        }
        z.takeOver(1);
        Check.same("without any disk", z.state(1, 4), 2);
        Check.steps(z, 1, 2, 0);
    }

    private static void diskByDisk() {
        Run x = new Run();
        x.takeOver(1);
        for (int d = 0; d < 5; d++) {
            Check.same("key before", x.keyOf(d), 1);
            Check.steps(x, 1, 2);
            Check.same("key", x.keyOf(d), 2);
            Check.same("owns", x.state(1, 10), 2);
        }
        Check.same("taking over", x.state(1, 7), 1);
        Check.steps(x, 1, 2);
        Check.same("takes over no more", x.state(1, 7), 0);
        Check.same("owns", x.state(1, 10), 3);
        Check.same("the other one knows nothing of it", x.state(0, 10), 1);
        Check.same("alone", x.state(1, 6), 0);
        Check.steps(x, 1, 9);
    }

    private static void fourDisksAreEnough() {
        Run x = new Run();
        x.lose(1);
        x.takeOver(0);
        Check.steps(x, 0, 2, 2, 2, 2, 2);
        Check.same("owns", x.state(0, 10), 3);
        Check.same("taking over", x.state(0, 7), 0);
        Check.same("key", x.keyOf(4), 2);
        Check.same("lost", x.keyOf(1), Run.NONE);
    }

    private static void threeDisksAreNot() {
        Run x = new Run();
        int open = x.write(0, 0, 1);
        x.lose(0);
        x.lose(3);
        x.takeOver(0);
        Check.steps(x, 0, 2, 2, 2);
        Check.same("up", x.state(0, 5), 1);
        Check.steps(x, 0, 2, 0);
        Check.same("fenced", x.state(0, 5), 0);
        Check.same("taking over", x.state(0, 7), 0);
        Check.same("owns", x.state(0, 10), 0);
        Check.same("key", x.state(0, 4), 2);
        Check.same("its open ticket", x.ticket(open), 2);
        x.restart(0);
        Check.steps(x, 0, 9);
    }

    private static void disksThatComeAndGoMeanwhile() {
        Run x = new Run();
        x.lose(0);
        x.lose(4);
        x.takeOver(0);
        Check.steps(x, 0, 2, 2);
        x.replace(0);
        x.replace(4);
        Check.same("of the greatest key", x.keyOf(4), 2);
        x.lose(1);
        Check.steps(x, 0, 2, 2, 2);
        Check.same("1, 2, 3, 4 were four, though 1 is lost by now", x.state(0, 10), 3);
        Run y = new Run();
        y.lose(0);
        y.lose(1);
        y.takeOver(0);
        Check.steps(y, 0, 2);
        y.replace(0);
        y.replace(1);
        Check.steps(y, 0, 2, 2, 2, 0);
        Run z = new Run();
        z.takeOver(0);
        Check.steps(z, 0, 2, 2, 2, 2);
        z.takeOver(1);
        Check.steps(z, 1, 2, 2, 2, 2, 2);
        Check.steps(z, 0, 2);
        Check.same("a greater key is no hindrance", z.keyOf(4), 2);
        Check.same("nor are other ones before it", z.keyOf(3), 3);
        Check.steps(z, 0, 2);
        Check.same("owns", z.state(0, 10), 3);
        y.crash(0);
        Check.same("down", y.state(0, 5), 0);
    }

    private static void mirrorBecomesDirty() {
        Run x = new Run();
        Check.mirrored(x, 0, 3, 30);
        Check.mirrored(x, 0, 14, 40);
        x.write(1, 17, 50);
        Check.same("mirror", x.state(1, 1), 2);
        Check.takeOverWhole(x, 1);
        Check.same("mirror", x.state(1, 1), 0);
        Check.same("dirty", x.state(1, 0), 3);
        Check.same("read", Check.readValue(x, 1, 3), 30);
        Check.same("read", Check.readValue(x, 1, 14), 40);
        Check.same("read", Check.readValue(x, 1, 17), 50);
        Check.steps(x, 1, 5, 4, 1, 4, 1, 4, 5, 4, 1, 4, 1, 4, 5, 4, 1, 4, 1, 4, 6, 6, 6, 9);
        Check.same("on the disks", Check.onDisk(x, 3), 30);
        Check.same("on the disks", Check.onDisk(x, 14), 40);
        Check.same("on the disks", Check.onDisk(x, 17), 50);
    }

    private static void mirrorVersionsAreNew() {
        Run x = new Run();
        for (int i = 0; i < 5; i++) {
            Check.mirrored(x, 0, 3, i);
        }
        Check.takeOverWhole(x, 1);
        Check.steps(x, 1, 5);
        int t = x.write(1, 3, 70);
        Check.steps(x, 1, 4, 1, 4, 1, 4);
        Check.same("written behind what was taken", x.ticket(t), 0);
        Check.same("dirty", x.state(1, 0), 1);
        Check.steps(x, 1, 5, 4, 1, 4, 1, 4);
        Check.same("done", x.ticket(t), 1);
        Check.same("on the disk", Check.onDisk(x, 3), 70);
    }

    /** Controller 0 went down with block 4 on its disk, the parity not; controller 1 has it in its mirror. */
    private static Run withTornStripe() {
        Run x = new Run();
        Check.mirrored(x, 0, 4, 6);
        x.flush(0);
        Check.steps(x, 0, 5, 4, 1);
        Check.deliver(x);
        x.crash(0);
        x.restart(0);
        Check.same("torn", x.parityGood(1), 0);
        return x;
    }

    private static void remarksAreRepaired() {
        Run x = withTornStripe();
        Check.same("remark", x.state(1, 12), 2);
        Check.takeOverWhole(x, 1);
        Check.same("remarks", x.state(1, 12), 0);
        Check.same("notes", x.state(1, 11), 2);
        Check.same("to be repaired", x.state(1, 13), 2);
        Check.steps(x, 1, 3);
        Check.same("to be repaired", x.state(1, 13), 0);
        Check.same("notes", x.state(1, 11), 2);
        Check.same("not yet", x.parityGood(1), 0);
        Check.steps(x, 1, 1);
        Check.same("parity", x.onDisk(3, 1), 6);
        Check.same("good", x.parityGood(1), 1);
        Check.steps(x, 1, 5, 4, 1, 4, 1, 4, 6, 9);
    }

    private static void repairsOfMissingBlocksAreLeftOut() {
        Run x = withTornStripe();
        Check.takeOverWhole(x, 1);
        x.lose(3);
        x.replace(3);
        Check.steps(x, 1, 3);
        Check.same("to be repaired", x.state(1, 13), 0);
        Check.steps(x, 1, 5);
        Check.noSuchElement("no parity was written", () -> x.onDisk(3, 1));
        Run y = withTornStripe();
        Check.takeOverWhole(y, 1);
        y.lose(0);
        Check.steps(y, 1, 3, 5);
        Check.same("parity as it was", y.onDisk(3, 1), 0);
    }

    private static void notesThatAreToBeRepairedStay() {
        Run x = new Run();
        x.write(0, 12, 1);
        x.write(0, 4, 2);
        x.flush(0);
        Check.steps(x, 0, 5, 4, 1, 4, 1, 4, 5, 4, 1, 4, 1, 4);
        Check.deliver(x);
        Check.mirrored(x, 0, 8, 3);
        x.crash(0);
        Check.same("remarks", x.state(1, 12), 2 | 8);
        Check.takeOverWhole(x, 1);
        Check.steps(x, 1, 3);
        Check.same("the lowest first", x.state(1, 13), 8);
        Check.steps(x, 1, 1, 3, 1);
        Check.same("notes", x.state(1, 11), 2 | 8);
        Check.steps(x, 1, 5, 4, 1, 4, 1, 4, 6);
        Check.same("the lowest first", x.state(1, 11), 4 | 8);
        Check.steps(x, 1, 6, 6, 9);
    }

    private static void againAndAgain() {
        Run x = new Run();
        Check.takeOverWhole(x, 0);
        Check.takeOverWhole(x, 1);
        Check.same("key", x.keyOf(2), 3);
        Check.same("fenced", x.ticket(x.read(0, 0)), 2);
        Check.same("down", x.state(0, 5), 0);
        Check.takeOverWhole(x, 1);
        Check.same("key", x.state(1, 4), 4);
        Check.same("key", x.keyOf(4), 4);
        Check.same("owns", x.state(1, 10), 3);
    }

    private static void againBeforeRepairs() {
        Run x = withTornStripe();
        Check.takeOverWhole(x, 1);
        Check.takeOverWhole(x, 1);
        Check.same("to be repaired still", x.state(1, 13), 2);
        Check.same("notes", x.state(1, 11), 2);
        Check.steps(x, 1, 3, 1);
        Check.same("repaired", x.parityGood(1), 1);
    }

    private static void againWithFewerDisks() {
        Run x = new Run();
        Check.takeOverWhole(x, 1);
        x.lose(0);
        x.lose(1);
        x.takeOver(1);
        Check.steps(x, 1, 2, 2, 2, 2, 0);
    }
}
