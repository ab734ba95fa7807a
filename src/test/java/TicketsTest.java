/** Promises 2 to 5: write, read, ticket, value. */
final class TicketsTest {
    public static void main(String[] args) {
        writesAtTheOwner();
        writesThatAreRefused();
        writesToNothing();
        writesWhileAlone();
        writesAreNotFenced();
        readsOfCacheAndDisks();
        readsOfMissingBlocks();
        readsKeepAnEntry();
        readsThatAreRefused();
        readsThatFence();
        readsThatDoNotFence();
        twoHundredTickets();
        ticketsThatAreNot();
        Check.end();
    }

    private static void writesAtTheOwner() {
        Run x = new Run();
        Check.same("first ticket", x.write(0, 0, Integer.MIN_VALUE), 0);
        Check.same("second ticket", x.write(0, 15, Integer.MAX_VALUE), 1);
        Check.same("third ticket", x.write(1, 16, -1), 2);
        Check.same("fourth ticket", x.write(1, 31, 4), 3);
        for (int t = 0; t < 4; t++) {
            Check.same("open", x.ticket(t), 0);
        }
        Check.same("value", x.value(0), Integer.MIN_VALUE);
        Check.same("value", x.value(1), Integer.MAX_VALUE);
        Check.same("value", x.value(2), -1);
        Check.same("dirty", x.state(0, 0), 2);
        Check.same("dirty", x.state(1, 0), 2);
        Check.same("messages", x.state(0, 2), 2);
        Check.same("messages", x.state(1, 2), 2);
        x.write(0, 0, 9);
        Check.same("dirty, twice written", x.state(0, 0), 2);
        Check.same("read what was written last", Check.readValue(x, 0, 0), 9);
        Check.same("not on the disk yet", x.onDisk(0, 0), 0);
        Check.same("no mirror before it arrives", x.state(1, 1), 0);
    }

    private static void writesThatAreRefused() {
        Run x = new Run();
        Check.same("ticket", x.write(0, 16, 7), 0);
        Check.same("ticket", x.write(1, 15, 8), 1);
        x.crash(0);
        Check.same("ticket", x.write(0, 3, 9), 2);
        x.restart(0);
        Check.same("ticket", x.write(0, 3, 10), 3);
        for (int t = 0; t < 4; t++) {
            Check.same("refused", x.ticket(t), 2);
            Check.same("value of what was refused", x.value(t), 7 + t);
        }
        Check.same("dirty", x.state(0, 0) + x.state(1, 0), 0);
        Check.same("messages", x.state(0, 2) + x.state(1, 2), 0);
    }

    private static void writesToNothing() {
        Run x = new Run();
        String before = Probe.looks(x);
        int[] noController = {-1, 2, Integer.MAX_VALUE, Integer.MIN_VALUE};
        int[] noBlock = {-1, 32, Integer.MAX_VALUE, Integer.MIN_VALUE};
        for (int i = 0; i < 4; i++) {
            Check.same("write", x.write(noController[i], 0, 1), Run.NONE);
            Check.same("write", x.write(0, noBlock[i], 1), Run.NONE);
            Check.same("write", x.write(1, noBlock[i], 1), Run.NONE);
            Check.same("read", x.read(noController[i], 0), Run.NONE);
            Check.same("read", x.read(0, noBlock[i]), Run.NONE);
            Check.same("read", x.read(1, noBlock[i]), Run.NONE);
        }
        Check.same("changed nothing", Probe.looks(x), before);
    }

    private static void writesWhileAlone() {
        Run x = new Run();
        Check.makeAlone(x, 0);
        int t = x.write(0, 2, 6);
        Check.same("no message of one that is alone", x.state(1, 2), 0);
        Check.same("open", x.ticket(t), 0);
        Check.steps(x, 0, 5, 4, 1, 4, 1);
        Check.same("open until it is destaged", x.ticket(t), 0);
        Check.steps(x, 0, 4);
        Check.same("done", x.ticket(t), 1);
    }

    private static void writesAreNotFenced() {
        Run x = new Run();
        Check.takeOverWhole(x, 1);
        int t = x.write(0, 0, 5);
        Check.same("open, though all disks have another key", x.ticket(t), 0);
        Check.same("up", x.state(0, 5), 1);
    }

    private static void readsOfCacheAndDisks() {
        Run x = new Run();
        for (int i = 0; i < 4; i++) {
            x.write(0, 4 + i, 50 + i);
        }
        Check.deliver(x);
        x.flush(0);
        Check.steps(x, 0, 5, 4, 1, 4, 1, 4, 1, 4, 1, 4, 1, 4, 6, 7);
        Check.deliver(x);
        Check.same("disk 0", x.onDisk(0, 1), 50);
        Check.same("disk 1", x.onDisk(1, 1), 51);
        Check.same("disk 2", x.onDisk(2, 1), 52);
        Check.same("disk 3, the parity", x.onDisk(3, 1), 50 ^ 51 ^ 52 ^ 53);
        Check.same("disk 4", x.onDisk(4, 1), 53);
        Check.yes("moveOwner", x.moveOwner(0));
        for (int i = 0; i < 4; i++) {
            Check.same("read of a disk", Check.readValue(x, 1, 4 + i), 50 + i);
        }
        Check.same("a read's entry is not dirty", x.state(1, 0), 0);
        Check.same("a read sends nothing", x.state(0, 2), 0);
        x.write(1, 4, 99);
        Check.same("read of the cache", Check.readValue(x, 1, 4), 99);
    }

    private static Run withFullStripe() {
        Run x = new Run();
        for (int i = 0; i < 4; i++) {
            x.write(0, i, 10 << i);
        }
        Check.deliver(x);
        x.flush(0);
        Check.steps(x, 0, 5, 4, 1, 4, 1, 4, 1, 4, 1, 4, 1, 4, 6, 7);
        Check.deliver(x);
        Check.yes("pair", x.pair());
        return x;
    }

    private static void readsOfMissingBlocks() {
        Run x = withFullStripe();
        x.lose(2);
        Check.same("by the others", Check.readValue(x, 0, 2), 40);
        Check.same("there", Check.readValue(x, 0, 1), 20);
        x.lose(4);
        Check.same("there, though two are missing", Check.readValue(x, 0, 3), 80);
        x.replace(4);
        x.lose(0);
        int lost = x.read(0, 0);
        Check.same("lost", x.ticket(lost), 2);
        Check.same("value of a refused read", x.value(lost), 0);
        Check.same("up", x.state(0, 5), 1);
        x.replace(0);
        Check.same("lost still, not rebuilt", x.ticket(x.read(0, 0)), 2);
    }

    private static void readsKeepAnEntry() {
        Run x = withFullStripe();
        Check.same("read", Check.readValue(x, 0, 1), 20);
        x.lose(1);
        x.lose(3);
        Check.same("of the entry", Check.readValue(x, 0, 1), 20);
        Check.same("no entry, no disk", x.ticket(x.read(0, 3)), 2);
        x.lose(0);
        x.lose(2);
        x.lose(4);
        Check.same("without any disk", Check.readValue(x, 0, 1), 20);
    }

    private static void readsThatAreRefused() {
        Run x = withFullStripe();
        int ofOther = x.read(1, 0);
        Check.same("not the owner's", x.ticket(ofOther), 2);
        Check.same("value", x.value(ofOther), 0);
        x.crash(0);
        int ofDown = x.read(0, 0);
        Check.same("down", x.ticket(ofDown), 2);
        Check.same("value", x.value(ofDown), 0);
    }

    private static void readsThatFence() {
        Run x = withFullStripe();
        Check.same("read", Check.readValue(x, 0, 0), 10);
        int open = x.write(0, 1, 5);
        x.takeOver(1);
        Check.steps(x, 1, 2, 2);
        Check.same("two other keys", Check.readValue(x, 0, 0), 10);
        Check.steps(x, 1, 2);
        int fenced = x.read(0, 0);
        Check.same("three other keys, though it has an entry", x.ticket(fenced), 2);
        Check.same("value", x.value(fenced), 0);
        Check.same("down", x.state(0, 5), 0);
        Check.same("its open ticket", x.ticket(open), 2);
        Check.same("its key", x.state(0, 4), 1);
        Check.no("crash of one that is down", x.crash(0));
    }

    private static void readsThatDoNotFence() {
        Run x = withFullStripe();
        x.takeOver(1);
        Check.steps(x, 1, 2, 2, 2);
        Check.same("not its volume", x.ticket(x.read(0, 16)), 2);
        Check.same("up", x.state(0, 5), 1);
        x.lose(1);
        Check.same("a lost disk's key does not count", Check.readValue(x, 0, 1), 20);
        x.replace(1);
        Check.same("fenced by the new disk's key", x.ticket(x.read(0, 1)), 2);
        Check.same("down", x.state(0, 5), 0);
        Run y = new Run();
        y.takeOver(0);
        Check.same("fenced by its own new key", y.ticket(y.read(0, 0)), 2);
        Check.same("down", y.state(0, 5), 0);
    }

    private static void twoHundredTickets() {
        Run x = new Run();
        for (int t = 0; t < 200; t++) {
            boolean isWrite = t % 2 == 0;
            Check.same("ticket", isWrite ? x.write(0, t % 16, t) : x.read(1, 16 + t % 16), t);
        }
        Check.takeOverWhole(x, 1);
        String before = Probe.looks(x);
        Check.same("write", x.write(0, 0, 1), Run.NONE);
        Check.same("write that would be refused", x.write(0, 16, 1), Run.NONE);
        Check.same("read that would fence", x.read(0, 0), Run.NONE);
        Check.same("changed nothing", Probe.looks(x), before);
        Check.same("the last ticket", x.value(198), 198);
        Check.same("the last ticket", x.ticket(199), 1);
    }

    private static void ticketsThatAreNot() {
        Run x = new Run();
        x.write(0, 0, 1);
        for (int t : new int[] {-1, 1, 200, Integer.MAX_VALUE, Integer.MIN_VALUE}) {
            Check.noSuchElement("ticket(" + t + ")", () -> x.ticket(t));
            Check.noSuchElement("value(" + t + ")", () -> x.value(t));
        }
    }
}
