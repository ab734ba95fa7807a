/** The edges that the document names for tickets, writing and reading: Terms, promises 2, 3, 4 and 5. */
final class EdgesOfTicketsTest {
    private static final int[] NO_CONTROLLER = {Integer.MIN_VALUE, -1, 2, 3, 32, Integer.MAX_VALUE};
    private static final int[] NO_BLOCK = {Integer.MIN_VALUE, -1, 32, 33, 64, Integer.MAX_VALUE};
    private static final int OPEN = 0;
    private static final int DONE = 1;
    private static final int REFUSED = 2;

    public static void main(String[] args) {
        numberedFrom0To199();
        noneWith200Tickets();
        ticketsOfEachSortCount();
        writeRefusedIfDown();
        writeRefusedIfItDoesNotOwnTheVolume();
        writeNotRefusedElse();
        mirrorGoesIfItIsPaired();
        writeOfTheLeastAndTheGreatest();
        readRefusedIfDown();
        readRefusedIfItDoesNotOwnTheVolume();
        fencedByThreeOtherKeys();
        fencedByLesserKeys();
        fencedByItsOwnNewKey();
        fencedBeforeItsEntryIsLookedAt();
        notFencedIfRefusedBefore();
        fencedGoesDown();
        readBecomesAnEntry();
        readRefusedWhenLost();
        writeNoneOfNoControllerOrBlock();
        readNoneOfNoControllerOrBlock();
        ticketThatThereIsNot();
        valueThatThereIsNot();
        valueOfEachSort();
        Check.end();
    }

    private static void numberedFrom0To199() {
        Check.sentence("Terms: TICKETS, at most 200 (numbered from 0 on)");
        Run x = new Run();
        Check.refusedByThrow("no ticket yet", x, y -> y.ticket(0), y -> y.value(0));
        for (int i = 0; i < 200; i++) {
            Check.same("ticket", i % 2 == 0 ? x.write(0, i % 16, i) : x.read(1, 16 + i % 16), i);
        }
        Check.same("one more", x.write(0, 0, 1), Run.NONE);
        Check.same("the last one", x.value(198), 198);
        Check.same("the last one", x.ticket(199), DONE);
        Check.noSuchElement("one more", () -> x.ticket(200));
        Check.noSuchElement("one more", () -> x.value(200));
    }

    /** So many tickets; then either a read by controller 0 would fence it, or disks 0 and 1 are lost. */
    private static Run withTickets(int count, boolean fences) {
        Run x = new Run();
        for (int i = 0; i < count; i++) {
            x.write(0, 4 + i % 3, i);
        }
        if (fences) {
            x.takeOver(1);
            Check.steps(x, 1, 2, 2, 2);
        } else {
            x.lose(0);
            x.lose(1);
        }
        return x;
    }

    private static void noneWith200Tickets() {
        Check.sentence("Promises 2, 3: NONE, no ticket, when ... 200 tickets are there");
        Run x = withTickets(200, false);
        Check.refused("write", x, Run.NONE, y -> y.write(0, 0, 1), y -> y.write(0, 15, Integer.MAX_VALUE));
        Check.refused("write that would be refused", x, Run.NONE, y -> y.write(0, 16, 1), y -> y.write(1, 0, 1));
        Check.refused("read", x, Run.NONE, y -> y.read(0, 4), y -> y.read(0, 2));
        Check.refused("read that would be refused", x, Run.NONE, y -> y.read(0, 16), y -> y.read(1, 0));
        Check.refused("read of a block that is lost", x, Run.NONE, y -> y.read(0, 0), y -> y.read(0, 1));
        Run fences = withTickets(200, true);
        Check.refused("read that would fence", fences, Run.NONE, y -> y.read(0, 4), y -> y.read(0, 0));
        Run down = withTickets(200, false);
        down.crash(0);
        Check.refused("down", down, Run.NONE, y -> y.read(0, 4), y -> y.write(0, 4, 7));
        Run beside = withTickets(199, false);
        Check.same("the last one", beside.write(0, 0, 5), 199);
        Check.same("its messages are as many as can be", beside.messages(1), 40);
        Check.same("dirty", beside.dirty(0), 4);
        Run besideRead = withTickets(199, true);
        Check.same("the last one", besideRead.read(0, 4), 199);
        Check.no("fenced by it", besideRead.isUp(0));
    }

    private static void ticketsOfEachSortCount() {
        Check.sentence("Promises 2, 3: the ticket (also when it is refused)");
        Run x = new Run();
        Check.same("done", x.read(0, 0), 0);
        Check.same("open", x.write(0, 0, 1), 1);
        Check.same("refused", x.write(0, 16, 1), 2);
        Check.same("refused", x.read(0, 16), 3);
        Check.same("no ticket", x.write(0, 32, 1), Run.NONE);
        Check.same("no ticket", x.read(2, 0), Run.NONE);
        Check.same("the next one", x.read(0, 0), 4);
        int[] due = {DONE, OPEN, REFUSED, REFUSED, DONE};
        for (int t = 0; t < due.length; t++) {
            Check.same("ticket " + t, x.ticket(t), due[t]);
        }
        Run refused = new Run();
        for (int i = 0; i < 200; i++) {
            Check.same("refused ones", i % 2 == 0 ? refused.read(1, 15) : refused.write(0, 16, 1), i);
        }
        Check.refused("one more", refused, Run.NONE, y -> y.write(0, 0, 1), y -> y.read(0, 0));
    }

    private static void writeRefusedIfDown() {
        Check.sentence("Terms: WRITING a block at a controller: refused if it is down");
        for (int block : new int[] {0, 15, 16, 31}) {
            Run x = new Run();
            int owner = block / 16;
            Check.same("up", x.ticket(x.write(owner, block, 1)), OPEN);
            x.crash(owner);
            Check.refusedWithTicket("down", x, 2, y -> y.write(owner, block, 2));
            x.restart(owner);
            Check.refusedWithTicket("up again, owning nothing", x, 3, y -> y.write(owner, block, 3));
        }
    }

    private static void writeRefusedIfItDoesNotOwnTheVolume() {
        Check.sentence("Terms: WRITING ... refused if ... does not own the volume");
        for (int block : new int[] {0, 15, 16, 31}) {
            int owner = block / 16;
            int other = 1 - owner;
            Run x = new Run();
            int greatest = Integer.MAX_VALUE;
            Check.refusedWithTicket("the other one's", x, greatest, y -> y.write(other, block, greatest));
            Check.yes("moveOwner", x.moveOwner(owner));
            int least = Integer.MIN_VALUE;
            Check.refusedWithTicket("moved away", x, least, y -> y.write(owner, block, least));
            Check.same("moved here", x.ticket(x.write(other, block, 4)), OPEN);
        }
    }

    private static void writeNotRefusedElse() {
        Check.sentence("Terms: WRITING ... else the cache's entry is the value ... the ticket is open");
        Run x = new Run();
        Check.takeOverWhole(x, 1);
        Check.loseAll(x, 31);
        Check.same("all keys were another's, no disk is there", x.ticket(x.write(0, 15, 7)), OPEN);
        Check.yes("up", x.isUp(0));
        Check.same("both own it", x.ticket(x.write(1, 15, 8)), OPEN);
        Check.same("its own entry", Check.readValue(x, 0, 15), 7);
        Check.same("its own entry", Check.readValue(x, 1, 15), 8);
        Run taking = new Run();
        taking.takeOver(0);
        Check.same("taking over, its own volume", taking.ticket(taking.write(0, 0, 1)), OPEN);
        Check.same("taking over, not yet its own", taking.ticket(taking.write(0, 16, 1)), REFUSED);
    }

    private static void mirrorGoesIfItIsPaired() {
        Check.sentence("Terms: MIRROR goes to the partner, if it is paired");
        Run x = new Run();
        Check.steps(x, 0, 8, 8, 8);
        x.write(0, 0, 1);
        Check.same("paired with three beats missed", x.messages(1), 4);
        Check.steps(x, 0, 8);
        x.write(0, 0, 1);
        Check.same("alone with four", x.messages(1), 5);
        Run taking = new Run();
        taking.takeOver(0);
        taking.write(0, 0, 1);
        Check.same("alone while it takes over", taking.messages(1), 0);
        taking.write(1, 16, 1);
        Check.same("the partner is paired still", taking.messages(0), 1);
        taking.crash(0);
        taking.write(1, 16, 1);
        Check.same("also if its partner is down", taking.messages(0), 2);
    }

    private static void writeOfTheLeastAndTheGreatest() {
        Check.sentence("Terms: STRIPES ... have a block (an int) on each disk");
        int[] values = {Integer.MIN_VALUE, Integer.MAX_VALUE, -1, 0};
        Run x = new Run();
        for (int i = 0; i < 4; i++) {
            int t = x.write(1, 28 + i, values[i]);
            Check.same("value", x.value(t), values[i]);
            Check.same("read", Check.readValue(x, 1, 28 + i), values[i]);
        }
        x.flush(1);
        Check.steps(x, 1, 5, 4, 1, 4, 1, 4, 1, 4, 1, 4, 1, 4);
        for (int i = 0; i < 4; i++) {
            Check.same("on the disk", Check.onDisk(x, 28 + i), values[i]);
        }
        Check.same("parity", x.onDisk(2, 7), Integer.MIN_VALUE ^ Integer.MAX_VALUE ^ -1);
    }

    private static void readRefusedIfDown() {
        Check.sentence("Terms: READING: refused likewise [down]");
        for (int block : new int[] {0, 15, 16, 31}) {
            Run x = Check.withStripe(block / 4);
            int owner = block / 16;
            Check.same("up", Check.readValue(x, owner, block), Check.someValue(block));
            x.crash(owner);
            Check.refusedWithTicket("down", x, 0, y -> y.read(owner, block));
            x.restart(owner);
            Check.refusedWithTicket("up again, owning nothing", x, 0, y -> y.read(owner, block));
        }
    }

    private static void readRefusedIfItDoesNotOwnTheVolume() {
        Check.sentence("Terms: READING: refused likewise [does not own the volume]");
        for (int block : new int[] {0, 15, 16, 31}) {
            Run x = Check.withStripe(block / 4);
            int owner = block / 16;
            int other = 1 - owner;
            Check.refusedWithTicket("the other one's", x, 0, y -> y.read(other, block));
            Check.yes("moveOwner", x.moveOwner(owner));
            Check.refusedWithTicket("moved away", x, 0, y -> y.read(owner, block));
            Check.same("moved here", Check.readValue(x, other, block), Check.someValue(block));
        }
    }

    /** All ways in which disks 0 .. taken - 1 have another key and some of all are lost. */
    private static void fencedByThreeOtherKeys() {
        Check.sentence("Terms: if at least three disks that are there have another key than the controller, refused");
        for (int taken = 0; taken <= 5; taken++) {
            for (int lost = 0; lost < 32; lost++) {
                Run x = new Run();
                Check.same("an entry", Check.readValue(x, 0, 1), 0);
                x.takeOver(1);
                for (int i = 0; i < taken; i++) {
                    Check.steps(x, 1, 2);
                }
                Check.loseAll(x, lost);
                int others = Integer.bitCount((1 << taken) - 1 & ~lost);
                int t = x.read(0, 1);
                String when = taken + " taken, lost " + lost;
                Check.same(when + ", ticket", x.ticket(t), others >= 3 ? REFUSED : DONE);
                Check.same(when + ", up", x.state(0, 5), others >= 3 ? 0 : 1);
            }
        }
    }

    private static void fencedByLesserKeys() {
        Check.sentence("Terms: at least three disks that are there have another key [a lesser one, too]");
        for (int there = 0; there <= 5; there++) {
            Run x = new Run();
            Check.same("an entry", Check.readValue(x, 0, 1), 0);
            Check.loseAll(x, 31);
            for (int d = 0; d < there; d++) {
                x.replace(d);
                Check.same("key", x.keyOf(d), 0);
            }
            Check.same(there + " of key 0", x.ticket(x.read(0, 1)), there >= 3 ? REFUSED : DONE);
            Check.same(there + " of key 0, up", x.state(0, 5), there >= 3 ? 0 : 1);
        }
    }

    private static void fencedByItsOwnNewKey() {
        Check.sentence("Terms: have another key than the controller");
        for (int taken = 0; taken <= 5; taken++) {
            Run x = new Run();
            x.takeOver(0);
            for (int i = 0; i < taken; i++) {
                Check.steps(x, 0, 2);
            }
            Check.same(taken + " taken", x.ticket(x.read(0, 15)), 5 - taken >= 3 ? REFUSED : DONE);
            Check.same(taken + " taken, up", x.state(0, 5), 5 - taken >= 3 ? 0 : 1);
        }
    }

    private static void fencedBeforeItsEntryIsLookedAt() {
        Check.sentence("Terms: refused, and it is FENCED (goes down); else done, its value that of the cache's entry");
        Run entry = new Run();
        entry.write(0, 0, 5);
        entry.takeOver(1);
        Check.steps(entry, 1, 2, 2, 2);
        int t = entry.read(0, 0);
        Check.same("a dirty entry is no help", entry.ticket(t), REFUSED);
        Check.same("value", entry.value(t), 0);
        Check.no("up", entry.isUp(0));
        Run lost = new Run();
        lost.takeOver(1);
        Check.steps(lost, 1, 2, 2, 2, 2, 2);
        lost.lose(0);
        lost.lose(1);
        Check.same("lost, but fenced before", lost.ticket(lost.read(0, 0)), REFUSED);
        Check.no("up", lost.isUp(0));
    }

    private static void notFencedIfRefusedBefore() {
        Check.sentence("Terms: READING: refused likewise; if at least three disks");
        Run x = new Run();
        Check.takeOverWhole(x, 1);
        Check.refusedWithTicket("not its volume", x, 0, y -> y.read(0, 16));
        Check.yes("up", x.isUp(0));
        Check.same("no ticket", x.read(0, 32), Run.NONE);
        Check.yes("up", x.isUp(0));
        Check.same("the other one has the key", x.ticket(x.read(1, 0)), DONE);
    }

    private static void fencedGoesDown() {
        Check.sentence("Terms: refused, and it is FENCED (goes down)");
        Run x = new Run();
        int open = x.write(0, 0, 5);
        x.flush(0);
        Check.steps(x, 0, 5, 4);
        x.takeOver(1);
        Check.steps(x, 1, 2, 2, 2);
        int t = x.read(0, 1);
        Check.same("refused", x.ticket(t), REFUSED);
        Check.same("value", x.value(t), 0);
        Check.same("its open write", x.ticket(open), REFUSED);
        Check.same("its write under way is late", x.lates(), 1);
        Check.same("its key", x.key(0), 1);
        int[] due = {0, 0, 0, 0, 1, 0, 0, 0, 0, -1, 0, 0, 0, 0};
        for (int what = 0; what < due.length; what++) {
            Check.same("state " + what, x.state(0, what), due[what]);
        }
        Check.refusedWithTicket("down", x, 0, y -> y.read(0, 1));
    }

    private static void readBecomesAnEntry() {
        Check.sentence("Terms: what the block is, which becomes an entry (version 0, not dirty)");
        Run x = Check.withStripe(3);
        Check.same("read", Check.readValue(x, 0, 15), Check.someValue(15));
        Check.same("not dirty", x.dirty(0), 0);
        Check.same("no message", x.messages(1), 0);
        x.flush(0);
        Check.steps(x, 0, 7);
        Check.loseAll(x, 31);
        Check.same("the entry", Check.readValue(x, 0, 15), Check.someValue(15));
        Check.same("no entry beside it", x.ticket(x.read(0, 14)), REFUSED);
        Run z = Check.withStripe(3);
        Check.same("read", Check.readValue(z, 0, 15), Check.someValue(15));
        z.write(0, 15, 6);
        Check.same("written over it", Check.readValue(z, 0, 15), 6);
        Check.same("dirty", z.dirty(0), 1);
        Check.same("read again", Check.readValue(z, 0, 15), 6);
        Check.same("dirty still", z.dirty(0), 1);
    }

    private static void readRefusedWhenLost() {
        Check.sentence("Terms: refused when it is lost");
        Run x = Check.withStripe(0);
        x.lose(0);
        Check.same("one is missing", Check.readValue(x, 0, 0), Check.someValue(0));
        x.lose(1);
        Check.refusedWithTicket("two are missing", x, 0, y -> y.read(0, 1));
        Check.yes("up", x.isUp(0));
        Check.refusedWithTicket("no entry came of it", x, 0, y -> y.read(0, 1));
        Check.same("the entry of before", Check.readValue(x, 0, 0), Check.someValue(0));
        x.write(0, 1, 9);
        Check.same("a written entry is not lost", Check.readValue(x, 0, 1), 9);
    }

    private static void writeNoneOfNoControllerOrBlock() {
        Check.sentence("Promise 2: NONE, no ticket, when there is no such controller or block");
        Run x = Check.withStripe(0);
        x.write(0, 0, 1);
        x.write(1, 31, 1);
        for (int n : NO_CONTROLLER) {
            Check.refused("controller " + n, x, Run.NONE, y -> y.write(n, 0, 1), y -> y.write(n, 31, 1));
        }
        for (int n : NO_BLOCK) {
            Check.refused("block " + n, x, Run.NONE, y -> y.write(0, n, 1), y -> y.write(1, n, 1));
        }
        Check.refused("neither", x, Run.NONE, y -> y.write(2, 32, 1), y -> y.write(-1, -1, 1));
        x.crash(1);
        Check.refused("down, no block", x, Run.NONE, y -> y.write(1, 32, 1), y -> y.write(1, -1, 1));
    }

    private static void readNoneOfNoControllerOrBlock() {
        Check.sentence("Promise 3: Reads likewise");
        Run x = Check.withStripe(0);
        for (int n : NO_CONTROLLER) {
            Check.refused("controller " + n, x, Run.NONE, y -> y.read(n, 0), y -> y.read(n, 31));
        }
        for (int n : NO_BLOCK) {
            Check.refused("block " + n, x, Run.NONE, y -> y.read(0, n), y -> y.read(1, n));
        }
        Check.takeOverWhole(x, 1);
        Check.refused("no block, and the keys would fence", x, Run.NONE, y -> y.read(0, 32), y -> y.read(0, -1));
    }

    private static void ticketThatThereIsNot() {
        Check.sentence("Promise 4: NoSuchElementException: there is none");
        Run x = new Run();
        x.write(0, 0, 5);
        x.write(0, 16, 6);
        Check.same("the first one", x.ticket(0), OPEN);
        Check.same("the last one", x.ticket(1), REFUSED);
        for (int t : new int[] {Integer.MIN_VALUE, -1, 2, 3, 199, 200, Integer.MAX_VALUE}) {
            Check.refusedByThrow("ticket " + t, x, y -> y.ticket(t));
        }
    }

    private static void valueThatThereIsNot() {
        Check.sentence("Promise 5: NoSuchElementException: there is none");
        Run x = new Run();
        x.write(0, 0, 5);
        x.write(0, 16, 6);
        Check.same("the first one", x.value(0), 5);
        Check.same("the last one", x.value(1), 6);
        for (int t : new int[] {Integer.MIN_VALUE, -1, 2, 3, 199, 200, Integer.MAX_VALUE}) {
            Check.refusedByThrow("ticket " + t, x, y -> y.value(t));
        }
    }

    private static void valueOfEachSort() {
        Check.sentence("Promise 5: what was written, also if that was refused, or read; 0 for a read that is refused");
        Run x = new Run();
        int written = x.write(0, 0, Integer.MIN_VALUE);
        int refused = x.write(1, 0, Integer.MAX_VALUE);
        int read = x.read(0, 0);
        int refusedRead = x.read(1, 0);
        x.write(0, 0, 3);
        x.crash(0);
        Check.same("refused when it went down", x.ticket(written), REFUSED);
        Check.same("what was written", x.value(written), Integer.MIN_VALUE);
        Check.same("what was to be written", x.value(refused), Integer.MAX_VALUE);
        Check.same("what was read", x.value(read), Integer.MIN_VALUE);
        Check.same("refused read", x.value(refusedRead), 0);
    }
}
