/** Promise 6: step, each of the nine in turn and which goes first. */
final class StepsTest {
    public static void main(String[] args) {
        stepsOfNone();
        beatsUntilAlone();
        flushOfNothing();
        notTakenUnlessToldOrAlone();
        theDirtiestStripe();
        wholeDestagingWhilePaired();
        writtenAgainWhileDestaging();
        writtenAgainWhileDestagingAlone();
        valuesAreThoseTaken();
        otherDataComeFromTheDisks();
        lostDisksAreLeftOut();
        lostParityIsLeftOut();
        lostDataLeaveParityOut();
        dataLostLaterDoNotMatter();
        landsOnLostDisk();
        landsOnNewDisk();
        landsByTheKeyItBeganWith();
        fencedWhileLanding();
        notesCloseFromTheLowest();
        oldOpenWritesAreDoneToo();
        openWritesOfOthersStayOpen();
        landingGoesFirst();
        destagingGoesOnAfterTakingOver();
        Check.end();
    }

    private static void stepsOfNone() {
        Run x = new Run();
        for (int c : new int[] {-1, 2, Integer.MAX_VALUE, Integer.MIN_VALUE}) {
            Check.same("step", x.step(c), Run.NONE);
        }
        x.crash(1);
        Check.steps(x, 1, 0, 0);
        x.restart(1);
        Check.steps(x, 1, 9, 9);
    }

    private static void beatsUntilAlone() {
        Run x = new Run();
        for (int beats = 1; beats <= 3; beats++) {
            Check.steps(x, 0, 8);
            Check.same("missed", x.state(0, 3), beats);
            Check.same("messages", x.state(1, 2), beats);
            Check.same("paired", x.state(0, 6), 1);
        }
        Check.steps(x, 0, 8);
        Check.same("missed", x.state(0, 3), 4);
        Check.same("the fourth beat goes, too", x.state(1, 2), 4);
        Check.same("alone", x.state(0, 6), 0);
        Check.same("the other one is paired", x.state(1, 6), 1);
        Check.steps(x, 0, 9);
        Check.same("none goes", x.state(1, 2), 4);
        Check.same("owns", x.state(0, 10), 1);
    }

    private static void flushOfNothing() {
        Run x = new Run();
        x.flush(0);
        Check.steps(x, 0, 7, 8);
        Check.same("told to flush", x.state(0, 8), 0);
        Check.makeAlone(x, 1);
        x.flush(1);
        Check.steps(x, 1, 7, 9);
    }

    private static void notTakenUnlessToldOrAlone() {
        Run x = new Run();
        x.write(0, 0, 4);
        Check.steps(x, 0, 8);
        x.flush(0);
        Check.steps(x, 0, 5);
        Check.same("destages", x.state(0, 9), 0);
        Run y = new Run();
        y.write(1, 31, 4);
        Check.makeAlone(y, 1);
        Check.steps(y, 1, 5);
        Check.same("destages", y.state(1, 9), 7);
        Check.same("told to flush", y.state(1, 8), 0);
    }

    private static void theDirtiestStripe() {
        Run x = new Run();
        x.write(0, 0, 1);
        x.write(0, 4, 1);
        x.write(0, 6, 1);
        x.write(0, 9, 1);
        x.write(0, 11, 1);
        x.flush(0);
        Check.steps(x, 0, 5);
        Check.same("of the most the lowest", x.state(0, 9), 1);
        Check.same("note", x.state(0, 11), 2);
        Check.steps(x, 0, 4, 1, 4, 1, 4, 1, 4, 5);
        Check.same("then", x.state(0, 9), 2);
        Check.same("notes", x.state(0, 11), 6);
        Check.steps(x, 0, 4, 1, 4, 1, 4, 1, 4, 5);
        Check.same("then", x.state(0, 9), 0);
        Check.steps(x, 0, 4, 1, 4, 1, 4, 6);
        Check.same("notes", x.state(0, 11), 6);
        Check.steps(x, 0, 6, 6, 7, 8);
    }

    private static void wholeDestagingWhilePaired() {
        Run x = new Run();
        int first = Check.mirrored(x, 1, 21, 5);
        int second = Check.mirrored(x, 1, 23, 6);
        x.flush(1);
        Check.steps(x, 1, 5);
        Check.same("a note goes", x.state(0, 2), 1);
        Check.steps(x, 1, 4);
        Check.same("not landed", x.onDisk(1, 5), 0);
        Check.steps(x, 1, 1);
        Check.same("landed", x.onDisk(1, 5), 5);
        Check.same("parity is behind", x.parityGood(5), 0);
        Check.steps(x, 1, 4, 1, 4);
        Check.same("dirty still", x.state(1, 0), 2);
        Check.steps(x, 1, 1);
        Check.same("parity", x.onDisk(4, 5), 5 ^ 6);
        Check.same("dirty still", x.state(1, 0), 2);
        Check.same("destages still", x.state(1, 9), 5);
        Check.steps(x, 1, 4);
        Check.same("not dirty", x.state(1, 0), 0);
        Check.same("destages none", x.state(1, 9), Run.NONE);
        Check.arrivals(x, 0, 3, 2, 2, -1);
        Check.same("remark", x.state(0, 12), 1 << 5);
        Check.same("mirror entries", x.state(0, 1), 0);
        Check.steps(x, 1, 6, 7, 8);
        Check.arrivals(x, 0, 4, 5, -1);
        Check.same("no remark", x.state(0, 12), 0);
        Check.same("tickets", x.ticket(first) + x.ticket(second), 2);
        Check.same("the entry stays", Check.readValue(x, 1, 21), 5);
    }

    private static void writtenAgainWhileDestaging() {
        Run x = new Run();
        Check.mirrored(x, 0, 0, 5);
        Check.mirrored(x, 0, 1, 6);
        x.flush(0);
        Check.steps(x, 0, 5, 4, 1);
        int again = Check.mirrored(x, 0, 0, 7);
        int unheard = x.write(0, 3, 8);
        Check.steps(x, 0, 4, 1, 4, 1, 4);
        Check.same("the taken value is on the disk", x.onDisk(0, 0), 5);
        Check.same("parity of what was taken", x.onDisk(4, 0), 5 ^ 6);
        Check.same("the new ones are dirty", x.state(0, 0), 2);
        Check.arrivals(x, 1, 0, 2, -1);
        Check.same("the new ones are mirrored", x.state(1, 1), 2);
        Check.same("done by the mirror", x.ticket(again), 1);
        Check.same("paired: not done by the disk", x.ticket(unheard), 0);
        Check.steps(x, 0, 5, 4, 1, 4, 1, 4, 1, 4);
        Check.arrivals(x, 1, 3, 2, 2, -1);
        Check.same("on the disk", x.onDisk(0, 0), 7);
        Check.same("on the disk", x.onDisk(3, 0), 8);
        Check.same("parity", x.onDisk(4, 0), 7 ^ 6 ^ 8);
        Check.same("still open: its GOT has not arrived", x.ticket(unheard), 0);
        Check.arrivals(x, 0, 1, -1);
        Check.same("done", x.ticket(unheard), 1);
    }

    private static void writtenAgainWhileDestagingAlone() {
        Run x = new Run();
        Check.makeAlone(x, 0);
        int before = x.write(0, 0, 5);
        Check.steps(x, 0, 5, 4, 1);
        int after = x.write(0, 0, 6);
        int other = x.write(0, 1, 7);
        Check.steps(x, 0, 4, 1, 4);
        Check.same("done, though the entry is a newer one", x.ticket(before), 1);
        Check.same("of a newer version", x.ticket(after), 0);
        Check.same("of a block that was not taken", x.ticket(other), 0);
        Check.same("dirty", x.state(0, 0), 2);
        Check.steps(x, 0, 5, 4, 1, 4, 1, 4, 1, 4, 6, 9);
        Check.same("done", x.ticket(after), 1);
        Check.same("done", x.ticket(other), 1);
        Check.same("no message of one that is alone", x.state(1, 2), 0);
    }

    private static void valuesAreThoseTaken() {
        Run x = new Run();
        x.write(0, 0, 5);
        x.write(0, 1, 6);
        x.flush(0);
        Check.steps(x, 0, 5);
        x.write(0, 0, 50);
        x.write(0, 1, 60);
        x.write(0, 2, 70);
        Check.steps(x, 0, 4, 1, 4, 1, 4, 1, 4);
        Check.same("disk 0", x.onDisk(0, 0), 5);
        Check.same("disk 1", x.onDisk(1, 0), 6);
        Check.same("disk 2", x.onDisk(2, 0), 0);
        Check.same("parity", x.onDisk(4, 0), 5 ^ 6);
        Check.same("dirty", x.state(0, 0), 3);
    }

    private static void otherDataComeFromTheDisks() {
        Run x = new Run();
        x.write(0, 2, 12);
        Check.makeAlone(x, 0);
        Check.steps(x, 0, 5, 4, 1, 4, 1, 4, 6);
        x.lose(2);
        x.write(0, 0, 3);
        Check.steps(x, 0, 5, 4, 1, 4, 1, 4, 6);
        Check.same("parity with what the missing one is", x.onDisk(4, 0), 3 ^ 12);
        x.replace(2);
        Check.same("rebuild", x.rebuild(2), 0);
        Check.same("what it was", x.onDisk(2, 0), 12);
    }

    private static void lostDisksAreLeftOut() {
        Run x = new Run();
        for (int i = 0; i < 4; i++) {
            x.write(0, i, 1 + i);
        }
        x.lose(1);
        x.flush(0);
        Check.steps(x, 0, 5, 4, 1, 4);
        x.lose(3);
        Check.steps(x, 0, 1, 4);
        x.replace(1);
        Check.steps(x, 0, 1, 4);
        Check.same("not dirty, though left out", x.state(0, 0), 0);
        Check.same("disk 0", x.onDisk(0, 0), 1);
        Check.same("disk 2", x.onDisk(2, 0), 3);
        Check.same("parity", x.onDisk(4, 0), 1 ^ 2 ^ 3 ^ 4);
        Check.noSuchElement("left out", () -> x.onDisk(1, 0));
        Check.noSuchElement("left out", () -> x.onDisk(3, 0));
    }

    private static void lostParityIsLeftOut() {
        Run x = new Run();
        x.write(0, 0, 8);
        x.lose(4);
        x.flush(0);
        Check.steps(x, 0, 5, 4, 1, 4);
        Check.same("destages none", x.state(0, 9), Run.NONE);
        Check.same("disk 0", x.onDisk(0, 0), 8);
        Run y = new Run();
        y.write(0, 0, 8);
        y.flush(0);
        Check.steps(y, 0, 5);
        y.lose(0);
        y.lose(4);
        Check.steps(y, 0, 4, 6);
        Check.same("not dirty, though nothing was written", y.state(0, 0), 0);
        Run z = new Run();
        z.lose(4);
        z.replace(4);
        z.write(0, 0, 8);
        z.flush(0);
        Check.steps(z, 0, 5, 4, 1, 4, 1, 4);
        Check.same("missing parity on a disk that is there", z.onDisk(4, 0), 8);
    }

    private static void lostDataLeaveParityOut() {
        Run x = new Run();
        x.lose(1);
        x.lose(2);
        x.write(0, 0, 8);
        x.flush(0);
        Check.steps(x, 0, 5);
        x.replace(1);
        x.replace(2);
        Check.steps(x, 0, 4, 1, 4, 6);
        Check.same("disk 0", x.onDisk(0, 0), 8);
        Check.same("parity as it was", x.onDisk(4, 0), 0);
        Run y = new Run();
        y.lose(1);
        y.lose(2);
        y.write(0, 1, 5);
        y.write(0, 2, 6);
        y.flush(0);
        Check.steps(y, 0, 5, 4, 1, 4);
        Check.same("dirty ones are not lost data", y.onDisk(4, 0), 5 ^ 6);
        y.write(0, 0, 7);
        Check.steps(y, 0, 5, 4, 1, 4, 6);
        Check.same("lost in the next one: no parity", y.onDisk(4, 0), 5 ^ 6);
        y.write(0, 4, 7);
        y.write(0, 5, 7);
        y.write(0, 6, 3);
        y.flush(0);
        Check.steps(y, 0, 5, 4, 1, 4, 1, 4, 6);
        Check.same("nothing lost in the one behind it", y.onDisk(3, 1), 3);
    }

    private static void dataLostLaterDoNotMatter() {
        Run x = new Run();
        x.write(0, 0, 8);
        x.flush(0);
        Check.steps(x, 0, 5);
        x.lose(1);
        x.lose(2);
        Check.steps(x, 0, 4, 1, 4, 1, 4, 6);
        Check.same("parity of what was taken", x.onDisk(4, 0), 8);
    }

    private static void landsOnLostDisk() {
        Run x = new Run();
        x.write(0, 0, 8);
        x.flush(0);
        Check.steps(x, 0, 5, 4);
        Check.takeOverWhole(x, 1);
        x.lose(0);
        Check.steps(x, 0, 1);
        Check.same("not fenced by a lost disk", x.state(0, 5), 1);
        x.replace(0);
        Check.noSuchElement("nothing landed", () -> x.onDisk(0, 0));
        Check.steps(x, 0, 4, 1);
        Check.same("fenced by the parity's disk", x.state(0, 5), 0);
    }

    private static void landsOnNewDisk() {
        Run x = new Run();
        x.write(0, 0, 8);
        x.flush(0);
        Check.steps(x, 0, 5, 4);
        x.lose(0);
        x.replace(0);
        Check.noSuchElement("missing", () -> x.onDisk(0, 0));
        Check.steps(x, 0, 1);
        Check.same("not missing any more", x.onDisk(0, 0), 8);
        Check.noSuchElement("missing still", () -> x.onDisk(0, 1));
        Check.same("the lowest that is missing", x.rebuild(0), 1);
    }

    private static void landsByTheKeyItBeganWith() {
        Run x = new Run();
        x.write(0, 0, 8);
        x.flush(0);
        Check.steps(x, 0, 5, 4);
        x.takeOver(0);
        Check.same("its new key", x.state(0, 4), 2);
        Check.steps(x, 0, 1);
        Check.same("up", x.state(0, 5), 1);
        Check.same("landed", x.onDisk(0, 0), 8);
    }

    private static void fencedWhileLanding() {
        Run x = new Run();
        int t = x.write(0, 0, 8);
        x.flush(0);
        Check.steps(x, 0, 5, 4);
        x.takeOver(1);
        Check.steps(x, 1, 2);
        Check.steps(x, 0, 1, 0);
        Check.same("down", x.state(0, 5), 0);
        Check.same("refused by the disk", x.onDisk(0, 0), 0);
        Check.same("its open write", x.ticket(t), 2);
        Check.same("what has landed is not late", x.lates(), 0);
    }

    private static void notesCloseFromTheLowest() {
        Run x = new Run();
        for (int block = 12; block >= 4; block -= 4) {
            Check.mirrored(x, 0, block, block);
            x.flush(0);
            Check.steps(x, 0, 5, 4, 1, 4, 1, 4);
            Check.deliver(x);
        }
        Check.same("notes", x.state(0, 11), 14);
        Check.same("remarks", x.state(1, 12), 14);
        Check.steps(x, 0, 6);
        Check.same("notes", x.state(0, 11), 12);
        Check.arrivals(x, 1, 4);
        Check.same("remarks", x.state(1, 12), 12);
        Check.steps(x, 0, 6, 6);
        Check.arrivals(x, 1, 4);
        Check.same("remarks", x.state(1, 12), 8);
        Check.arrivals(x, 1, 4, -1);
        Check.same("remarks", x.state(1, 12), 0);
        Check.steps(x, 0, 7);
        x.write(0, 0, 3);
        Check.makeAlone(x, 0);
        Check.deliver(x);
        Check.steps(x, 0, 5, 4, 1, 4, 1, 4, 6, 9);
        Check.same("no CLOSE of one that is alone", x.state(1, 2), 0);
    }

    private static void oldOpenWritesAreDoneToo() {
        Run x = new Run();
        x.cut(true);
        int first = x.write(0, 0, 1);
        int second = x.write(0, 0, 2);
        Check.steps(x, 0, 8, 8, 8, 8);
        int third = x.write(0, 0, 3);
        Check.steps(x, 0, 5, 4, 1, 4, 1);
        Check.same("open", x.ticket(first) + x.ticket(second) + x.ticket(third), 0);
        Check.steps(x, 0, 4);
        Check.same("done", x.ticket(first), 1);
        Check.same("done", x.ticket(second), 1);
        Check.same("done", x.ticket(third), 1);
    }

    private static void openWritesOfOthersStayOpen() {
        Run x = new Run();
        int zeros = x.write(0, 0, 1);
        Check.deliverTo(x, 1);
        Check.takeOverWhole(x, 1);
        Check.steps(x, 1, 5, 4, 1, 4, 1, 4);
        Check.same("destaged by the other one", x.onDisk(0, 0), 1);
        Check.same("the ticket is not its own", x.ticket(zeros), 0);
        Check.arrivals(x, 0, 1);
        Check.same("done by GOT", x.ticket(zeros), 1);
    }

    private static void landingGoesFirst() {
        Run x = new Run();
        Check.mirrored(x, 0, 0, 3);
        Check.mirrored(x, 1, 16, 4);
        x.flush(0);
        Check.steps(x, 0, 5, 4, 1, 4);
        Check.deliver(x);
        x.flush(1);
        Check.steps(x, 1, 5, 4);
        Check.takesOverBehindItsWrite(x);
        Check.same("notes of both", x.state(1, 11), 1 | 16);
        Check.same("to be repaired", x.state(1, 13), 1);
        Check.steps(x, 1, 3, 1, 4, 1, 4, 5, 4, 1, 4, 1, 4, 6, 6, 7, 9);
        Check.same("stripe 0", x.parityGood(0), 1);
        Check.same("stripe 4", x.parityGood(4), 1);
        Check.same("block 0", Check.onDisk(x, 0), 3);
        Check.same("block 16", Check.onDisk(x, 16), 4);
    }

    private static void destagingGoesOnAfterTakingOver() {
        Run x = new Run();
        int t = x.write(0, 0, 3);
        x.flush(0);
        Check.steps(x, 0, 5);
        Check.takeOverWhole(x, 0);
        Check.same("destages still", x.state(0, 9), 0);
        Check.steps(x, 0, 4, 1, 4, 1, 4);
        Check.same("landed with the new key", x.onDisk(0, 0), 3);
        Check.same("alone: done by the disk", x.ticket(t), 1);
        Check.same("messages: MIRROR and NOTE, no FORGET", x.state(1, 2), 2);
    }
}
