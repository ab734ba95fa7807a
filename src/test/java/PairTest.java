/** Promises 11 and 13: pair, moveOwner. */
final class PairTest {
    public static void main(String[] args) {
        pairsAgain();
        notWhileDown();
        notWhileTakingOver();
        notWhileDirtyOrNoted();
        notWhileDestaging();
        notWhileWriteIsUnderWay();
        notWhileCut();
        notWithOtherKeys();
        withoutAnyDisk();
        notBeforeMirrorIsTakenOver();
        clearsWhatWas();
        keepsFlushAndOpenTickets();
        volumeOfNoneIsZeros();
        volumeOfBothStays();
        volumeOfOneStays();
        versionsMayBeginAnew();
        moves();
        movesBackAndForth();
        moveDropsEntries();
        moveDropsAllOfTheVolume();
        moveKeepsTheOtherVolume();
        noMoveOfNothing();
        noMoveUnlessPaired();
        noMoveWithMessages();
        noMoveWhileBusy();
        Check.end();
    }

    private static void pairsAgain() {
        Run x = new Run();
        Check.steps(x, 0, 8, 8);
        Check.yes("pair", x.pair());
        Check.same("missed", x.state(0, 3), 0);
        Check.same("messages", x.state(1, 2), 0);
        Check.same("owns", x.state(0, 10), 1);
        Check.same("owns", x.state(1, 10), 2);
        Check.makeAlone(x, 0);
        Check.makeAlone(x, 1);
        Check.yes("pair", x.pair());
        Check.same("paired", x.state(0, 6) + x.state(1, 6), 2);
        Check.same("missed", x.state(0, 3) + x.state(1, 3), 0);
    }

    private static void refused(String what, Run x) {
        String before = Probe.looks(x);
        Check.no(what, x.pair());
        Check.same(what + " changed nothing", Probe.looks(x), before);
    }

    private static void notWhileDown() {
        for (int c = 0; c < 2; c++) {
            Run x = new Run();
            x.crash(c);
            refused("down", x);
            x.restart(c);
            Check.yes("pair", x.pair());
        }
    }

    private static void notWhileTakingOver() {
        for (int c = 0; c < 2; c++) {
            Run x = new Run();
            x.takeOver(c);
            refused("taking over, all keys are the other one's", x);
            Check.steps(x, c, 2, 2, 2, 2, 2);
            refused("taking over, all keys are its own", x);
            Check.steps(x, c, 2);
            Check.yes("pair", x.pair());
            Check.same("key", x.state(1 - c, 4), 2);
        }
    }

    private static void notWhileDirtyOrNoted() {
        for (int c = 0; c < 2; c++) {
            Run x = new Run();
            x.write(c, 16 * c, 5);
            refused("dirty", x);
            x.flush(c);
            Check.steps(x, c, 5, 4, 1, 4, 1, 4);
            Check.same("dirty", x.state(c, 0), 0);
            refused("noted", x);
            Check.steps(x, c, 6);
            Check.yes("pair", x.pair());
        }
    }

    private static void notWhileDestaging() {
        Run x = new Run();
        x.write(0, 0, 5);
        x.flush(0);
        Check.steps(x, 0, 5);
        refused("destaging", x);
    }

    private static void notWhileWriteIsUnderWay() {
        Run x = new Run();
        x.write(0, 0, 5);
        x.flush(0);
        Check.steps(x, 0, 5, 4);
        refused("under way", x);
    }

    private static void notWhileCut() {
        Run x = new Run();
        x.cut(true);
        refused("cut", x);
        x.cut(false);
        Check.yes("pair", x.pair());
    }

    private static void notWithOtherKeys() {
        Run x = new Run();
        x.takeOver(0);
        Check.steps(x, 0, 2);
        x.crash(0);
        x.restart(0);
        refused("keys of both on the disks", x);
        x.lose(0);
        Check.yes("the one with the other key is lost", x.pair());
        Check.same("key", x.state(0, 4), 1);
        Run y = new Run();
        Check.takeOverWhole(y, 0);
        y.lose(3);
        y.takeOver(0);
        y.crash(0);
        y.restart(0);
        refused("no one's key", y);
    }

    private static void withoutAnyDisk() {
        Run x = new Run();
        for (int d = 0; d < 5; d++) {
            x.lose(d);
        }
        Check.yes("pair", x.pair());
        Check.same("key", x.state(1, 4), 1);
    }

    private static void notBeforeMirrorIsTakenOver() {
        Run x = new Run();
        Check.mirrored(x, 0, 15, 5);
        x.crash(0);
        x.restart(0);
        refused("a mirror entry of a volume that none owns", x);
        Check.takeOverWhole(x, 1);
        Check.steps(x, 1, 5, 4, 1, 4, 1, 4, 6, 9);
        Check.yes("pair", x.pair());
        Check.same("owns", x.state(1, 10), 3);
        Run y = new Run();
        Check.mirrored(y, 1, 16, 5);
        y.crash(1);
        y.restart(1);
        refused("a mirror entry of volume 1", y);
        y.crash(0);
        y.restart(0);
        Check.yes("without the mirror entry", y.pair());
        Check.same("owns both", y.state(0, 10), 3);
        Check.same("owns none", y.state(1, 10), 0);
        Run z = new Run();
        Check.mirrored(z, 0, 0, 5);
        z.flush(0);
        Check.steps(z, 0, 5, 4, 1, 4, 1, 4, 6);
        Check.same("mirror, FORGET is on its way", z.state(1, 1), 1);
        z.crash(1);
        z.restart(1);
        Check.yes("volume 1 is none's", z.pair());
        Run w = new Run();
        Check.mirrored(w, 0, 0, 5);
        w.flush(0);
        Check.steps(w, 0, 5, 4, 1, 4, 1, 4, 6);
        Check.yes("a mirror entry of a volume that has its owner", w.pair());
        Check.same("mirror", w.state(1, 1), 0);
    }

    private static void clearsWhatWas() {
        Run x = new Run();
        Check.mirrored(x, 1, 20, 5);
        x.flush(1);
        Check.steps(x, 1, 5);
        Check.deliver(x);
        Check.steps(x, 1, 4, 1, 4, 1, 4, 6, 7, 8);
        Check.steps(x, 0, 8, 8);
        Check.same("mirror, remarks, messages, beats", x.state(0, 1) + x.state(0, 12) + x.state(0, 2) + x.state(0, 3),
            1 + 32 + 3 + 2);
        Check.same("messages, beats", x.state(1, 2) + x.state(1, 3), 2 + 1);
        Check.yes("pair", x.pair());
        for (int c = 0; c < 2; c++) {
            for (int what = 0; what < 4; what++) {
                Check.same("state " + what, x.state(c, what), 0);
            }
            Check.same("remarks", x.state(c, 12), 0);
            Check.arrivals(x, c, -1);
        }
        x.lose(0);
        x.lose(1);
        Check.same("no cache entry", x.ticket(x.read(1, 20)), 2);
        Check.same("no cache entry", x.ticket(x.read(1, 20)), 2);
    }

    private static void keepsFlushAndOpenTickets() {
        Run x = new Run();
        x.cut(true);
        int t = x.write(0, 0, 5);
        x.cut(false);
        x.flush(0);
        Check.steps(x, 0, 5, 4, 1, 4, 1, 4, 6);
        Check.yes("pair", x.pair());
        Check.same("told to flush still", x.state(0, 8), 1);
        Check.same("open still", x.ticket(t), 0);
        x.write(0, 0, 6);
        Check.deliver(x);
        Check.same("not its GOT", x.ticket(t), 0);
        Check.steps(x, 0, 5, 4, 1, 4, 1, 4, 6, 7);
        Check.makeAlone(x, 0);
        x.write(0, 0, 7);
        Check.steps(x, 0, 5, 4, 1, 4, 1, 4);
        Check.same("done with a later version", x.ticket(t), 1);
    }

    private static void volumeOfNoneIsZeros() {
        for (int c = 0; c < 2; c++) {
            Run x = new Run();
            x.crash(c);
            x.restart(c);
            Check.same("owns none", x.state(c, 10), 0);
            Check.yes("pair", x.pair());
            Check.same("0 owns", x.state(0, 10), c == 0 ? 1 : 3);
            Check.same("1 owns", x.state(1, 10), c == 0 ? 2 : 0);
        }
    }

    private static void volumeOfBothStays() {
        Run x = new Run();
        Check.takeOverWhole(x, 0);
        Check.same("both own volume 1", x.state(0, 10) & x.state(1, 10), 2);
        Check.yes("pair", x.pair());
        Check.same("0 owns", x.state(0, 10), 3);
        Check.same("1 owns", x.state(1, 10), 0);
        Check.same("keys", x.state(0, 4) * 10 + x.state(1, 4), 22);
        Run y = new Run();
        Check.takeOverWhole(y, 1);
        Check.yes("pair", y.pair());
        Check.same("0 owns", y.state(0, 10), 0);
        Check.same("1 owns", y.state(1, 10), 3);
        Check.same("keys", y.state(0, 4) * 10 + y.state(1, 4), 22);
        Run z = new Run();
        Check.takeOverWhole(z, 0);
        for (int d = 0; d < 5; d++) {
            z.lose(d);
        }
        for (int d = 0; d < 5; d++) {
            z.replace(d);
        }
        Check.takeOverWhole(z, 1);
        Check.same("both have the key", z.state(0, 4) * 10 + z.state(1, 4), 22);
        Check.yes("pair", z.pair());
        Check.same("0 owns", z.state(0, 10), 3);
        Check.same("1 owns", z.state(1, 10), 0);
    }

    private static void volumeOfOneStays() {
        Run x = new Run();
        x.lose(0);
        x.lose(1);
        x.takeOver(1);
        Check.steps(x, 1, 2, 2, 2, 2, 0);
        x.restart(1);
        Check.yes("all disks have the key of 1, which owns nothing", x.pair());
        Check.same("key", x.state(0, 4), 2);
        Check.same("0 owns", x.state(0, 10), 3);
        Check.same("1 owns", x.state(1, 10), 0);
    }

    private static void versionsMayBeginAnew() {
        Run x = new Run();
        Check.mirrored(x, 0, 0, 1);
        Check.mirrored(x, 0, 0, 2);
        x.flush(0);
        Check.steps(x, 0, 5, 4, 1, 4, 1, 4);
        Check.deliver(x);
        x.crash(0);
        x.restart(0);
        Check.yes("pair", x.pair());
        Check.mirrored(x, 0, 0, 3);
        Check.same("mirror", x.state(1, 1), 1);
        Check.takeOverWhole(x, 1);
        Check.same("read", Check.readValue(x, 1, 0), 3);
    }

    private static void moves() {
        for (int v = 0; v < 2; v++) {
            Run x = new Run();
            Check.yes("moveOwner", x.moveOwner(v));
            Check.same("from", x.state(v, 10), 0);
            Check.same("to", x.state(1 - v, 10), 3);
            Check.same("the old owner", x.ticket(x.read(v, 16 * v)), 2);
            Check.same("the new owner", x.ticket(x.read(1 - v, 16 * v)), 1);
            Check.mirrored(x, 1 - v, 16 * v + 3, 7);
            Check.same("mirror", x.state(v, 1), 1);
        }
    }

    private static void movesBackAndForth() {
        Run x = new Run();
        Check.yes("moveOwner", x.moveOwner(0));
        Check.yes("moveOwner", x.moveOwner(1));
        Check.same("crossed", x.state(0, 10) * 10 + x.state(1, 10), 21);
        Check.yes("moveOwner", x.moveOwner(0));
        Check.yes("moveOwner", x.moveOwner(1));
        Check.same("as at first", x.state(0, 10) * 10 + x.state(1, 10), 12);
    }

    private static void moveDropsEntries() {
        Run x = new Run();
        Check.same("read", Check.readValue(x, 0, 0), 0);
        Check.mirrored(x, 0, 1, 5);
        x.flush(0);
        x.step(0);
        Check.steps(x, 0, 4, 1, 4, 1);
        x.cut(true);
        Check.steps(x, 0, 4, 6, 7);
        x.cut(false);
        Check.deliver(x);
        Check.same("mirror, FORGET was lost", x.state(1, 1), 1);
        Check.yes("moveOwner", x.moveOwner(0));
        Check.same("mirror", x.state(1, 1), 0);
        Check.mirrored(x, 1, 1, 8);
        x.flush(1);
        Check.steps(x, 1, 5, 4, 1, 4, 1, 4, 6, 7);
        Check.deliver(x);
        Check.yes("moveOwner", x.moveOwner(0));
        Check.same("of the disk, not of the old entry", Check.readValue(x, 0, 1), 8);
    }

    /** An old owner's entries would come to light when it takes the volume over again. */
    private static void moveDropsAllOfTheVolume() {
        for (int block : new int[] {0, 7, 15, 16, 31}) {
            int v = block / 16;
            Run x = new Run();
            Check.same("read", Check.readValue(x, v, block), 0);
            Check.yes("moveOwner", x.moveOwner(v));
            Check.mirrored(x, 1 - v, block, 8);
            x.flush(1 - v);
            Check.steps(x, 1 - v, 5, 4, 1, 4, 1, 4, 6, 7);
            Check.deliver(x);
            Check.takeOverWhole(x, v);
            Check.same("of the disk, not of the old entry", Check.readValue(x, v, block), 8);
        }
    }

    private static void moveKeepsTheOtherVolume() {
        Run x = new Run();
        Check.yes("moveOwner", x.moveOwner(1));
        Check.mirrored(x, 0, 0, 5);
        Check.same("read", Check.readValue(x, 0, 1), 0);
        Check.yes("moveOwner, volume 0 is dirty", x.moveOwner(1));
        Check.same("dirty", x.state(0, 0), 1);
        Check.same("mirror", x.state(1, 1), 1);
        x.lose(1);
        x.lose(2);
        Check.same("cache entry", Check.readValue(x, 0, 1), 0);
    }

    private static void notMoved(String what, Run x, int volume) {
        String before = Probe.looks(x);
        Check.no(what, x.moveOwner(volume));
        Check.same(what + " changed nothing", Probe.looks(x), before);
    }

    private static void noMoveOfNothing() {
        for (int v : new int[] {-1, 2, 3, Integer.MAX_VALUE, Integer.MIN_VALUE}) {
            notMoved("no such volume", new Run(), v);
        }
    }

    private static void noMoveUnlessPaired() {
        for (int c = 0; c < 2; c++) {
            Run x = new Run();
            x.crash(c);
            notMoved("down", x, 0);
            notMoved("down", x, 1);
            x.restart(c);
            notMoved("alone", x, 0);
            notMoved("alone", x, 1);
            Run y = new Run();
            Check.takeOverWhole(y, c);
            notMoved("both own it, one is alone", y, 1 - c);
            Run z = new Run();
            Check.makeAlone(z, c);
            notMoved("alone", z, 0);
            notMoved("alone", z, 1);
        }
    }

    private static void noMoveWithMessages() {
        for (int c = 0; c < 2; c++) {
            Run x = new Run();
            Check.steps(x, c, 8);
            notMoved("a message", x, 0);
            notMoved("a message", x, 1);
            Check.arrivals(x, 1 - c, 5);
            Check.yes("moveOwner", x.moveOwner(0));
            Check.same("missed beats stay", x.state(c, 3), 1);
        }
    }

    private static void noMoveWhileBusy() {
        for (int block : new int[] {0, 6, 15, 16, 25, 31}) {
            int v = block / 16;
            Run x = new Run();
            Check.mirrored(x, v, block, 5);
            notMoved("dirty", x, v);
            x.flush(v);
            Check.steps(x, v, 5);
            Check.deliver(x);
            notMoved("destaging", x, v);
            Check.yes("the other volume", x.moveOwner(1 - v));
            Check.yes("the other volume", x.moveOwner(1 - v));
            Check.steps(x, v, 4, 1, 4, 1, 4);
            Check.deliver(x);
            Check.same("dirty", x.state(v, 0), 0);
            notMoved("noted", x, v);
            Check.steps(x, v, 6);
            Check.deliver(x);
            Check.yes("moveOwner", x.moveOwner(v));
        }
    }
}
