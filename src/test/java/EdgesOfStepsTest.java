/** The edges that the document names for a step, 1 to 9: Terms, promise 6. */
final class EdgesOfStepsTest {
    private static final int[] NO_CONTROLLER = {Integer.MIN_VALUE, -1, 2, 3, 32, Integer.MAX_VALUE};

    public static void main(String[] args) {
        landsNotOnALostDisk();
        landsByItsKey();
        landsByTheKeyItBeganWith();
        fencedByALesserKey();
        takesTheNextDiskThatIsThere();
        fencedWithFewerThanFourDisks();
        fewerCountsThoseTaken();
        mirrorEntriesBecomeDirty();
        remarksBecomeNotesAndRepairs();
        repairsOfTakingOverTwice();
        repairOfTheLowest();
        repairIfNoneIsMissing();
        dirtyBlocksOnLostDisksAreLeftOut();
        parityIfItsDiskIsThereAndNoDataWereLost();
        whatWasLostIsSaidWhenItIsTaken();
        otherDataAreThoseOfTheDisks();
        lostDataOfTheOneBefore();
        sameVersionStill();
        forgetGoesIfItIsPaired();
        openWritesUpToTheTakenVersion();
        openWritesOfBlocksLeftOut();
        destagesIfToldOrAlone();
        destagesTheStripeWithTheMost();
        destagesOfThoseTheLowest();
        cleanEntriesDoNotCount();
        noteGoesIfItIsPaired();
        lowestNoteGoes();
        notesOfStripesWithARemark();
        notesToBeRepairedStay();
        closeGoesIfItIsPaired();
        toldToFlushNoMore();
        aloneWithTheFourthBeat();
        nothingToDo();
        zeroWhenDown();
        noneOfNoController();
        Check.end();
    }

    /** Controller 0 has a write of a block of its volume under way, with the value 9; its partner has heard nothing. */
    private static Run withWriteUnderWay(int block) {
        Run x = new Run();
        x.write(0, block, 9);
        x.flush(0);
        Check.steps(x, 0, 5, 4);
        return x;
    }

    private static void landsNotOnALostDisk() {
        Check.sentence("Step 1: nothing if the disk is lost");
        for (int block = 0; block < 16; block++) {
            int disk = Check.disk(block);
            int stripe = block / 4;
            Run x = withWriteUnderWay(block);
            Check.takeOverWhole(x, 1);
            x.lose(disk);
            Check.steps(x, 0, 1);
            Check.yes("not fenced, though its key was another", x.isUp(0));
            x.replace(disk);
            Check.noSuchElement("nothing landed", () -> x.onDisk(disk, stripe));
            x.crash(0);
            Check.same("nor is it under way still", x.lates(), 0);
        }
    }

    private static void landsByItsKey() {
        Check.sentence("Step 1: if the disk's key is the one that the controller had ... else it is fenced");
        for (int block = 0; block < 16; block++) {
            int disk = Check.disk(block);
            for (int taken = 0; taken <= 5; taken++) {
                Run x = withWriteUnderWay(block);
                x.takeOver(1);
                for (int i = 0; i < taken; i++) {
                    Check.steps(x, 1, 2);
                }
                Check.steps(x, 0, 1);
                boolean fenced = disk < taken;
                Check.same("block " + block + ", taken " + taken + ", up", x.state(0, 5), fenced ? 0 : 1);
                Check.same("block " + block + ", taken " + taken, Check.onDisk(x, block), fenced ? 0 : 9);
                Check.same("on the disk beside it", x.onDisk((disk + 1) % 5, block / 4), 0);
            }
        }
    }

    private static void landsByTheKeyItBeganWith() {
        Check.sentence("Step 1: the one that the controller had when the write began");
        Run before = withWriteUnderWay(0);
        before.takeOver(0);
        Check.steps(before, 0, 1);
        Check.yes("the disk has the key of then", before.isUp(0));
        Check.same("landed", Check.onDisk(before, 0), 9);
        Run since = withWriteUnderWay(0);
        since.takeOver(0);
        Check.yes("takeOver of the other one, to the same key", since.takeOver(1));
        Check.steps(since, 1, 2);
        Check.same("the disk has its key of now", since.keyOf(0), since.key(0));
        Check.steps(since, 0, 1, 0);
        Check.same("fenced", Check.onDisk(since, 0), 0);
    }

    private static void fencedByALesserKey() {
        Check.sentence("Step 1: else it is fenced");
        Run x = withWriteUnderWay(0);
        Check.loseAll(x, 31);
        x.replace(0);
        Check.same("key", x.keyOf(0), 0);
        Check.steps(x, 0, 1, 0);
        Check.no("up", x.isUp(0));
        Check.noSuchElement("missing still", () -> x.onDisk(0, 0));
        Run same = withWriteUnderWay(0);
        same.lose(0);
        same.replace(0);
        Check.same("key", same.keyOf(0), 1);
        Check.steps(same, 0, 1);
        Check.yes("up", same.isUp(0));
        Check.same("the block is the value (and not missing)", same.onDisk(0, 0), 9);
    }

    private static void takesTheNextDiskThatIsThere() {
        Check.sentence("Step 2: of the next disk (from 0 on) that is there the key becomes its own");
        for (int lost = 0; lost < 32; lost++) {
            Run x = new Run();
            Check.loseAll(x, lost);
            x.takeOver(1);
            for (int d = 0; d < 5; d++) {
                if ((lost >> d & 1) == 0) {
                    Check.steps(x, 1, 2);
                    Check.same("lost " + lost + ", disk " + d, x.keyOf(d), 2);
                    Check.same("lost " + lost + ", behind it", keysOf2(x), bitsUpTo(d) & ~lost);
                }
            }
        }
    }

    private static int bitsUpTo(int disk) {
        return (2 << disk) - 1;
    }

    private static int keysOf2(Run x) {
        int bits = 0;
        for (int d = 0; d < 5; d++) {
            bits |= x.keyOf(d) == 2 ? 1 << d : 0;
        }
        return bits;
    }

    private static void fencedWithFewerThanFourDisks() {
        Check.sentence("Step 2: if that were fewer than four disks, it takes over no more, and is fenced");
        for (int lost = 0; lost < 32; lost++) {
            for (int c = 0; c < 2; c++) {
                Run x = new Run();
                Check.loseAll(x, lost);
                int there = 5 - Integer.bitCount(lost);
                x.takeOver(c);
                for (int i = 0; i < there; i++) {
                    Check.steps(x, c, 2);
                    Check.yes("takes over", x.takesOver(c));
                }
                Check.steps(x, c, 2);
                Check.no("takes over no more", x.takesOver(c));
                Check.same(there + " disks, up", x.state(c, 5), there >= 4 ? 1 : 0);
                Check.same(there + " disks, owns", x.owns(c), there >= 4 ? 3 : 0);
                Check.same("key", x.key(c), 2);
                Check.steps(x, c, there >= 4 ? 9 : 0);
            }
        }
    }

    private static void fewerCountsThoseTaken() {
        Check.sentence("Step 2: if that were fewer than four disks");
        Run gone = new Run();
        gone.takeOver(0);
        Check.steps(gone, 0, 2, 2, 2, 2);
        Check.loseAll(gone, 31);
        Check.steps(gone, 0, 2);
        Check.same("four were taken, though none is there now", gone.owns(0), 3);
        Run late = new Run();
        Check.loseAll(late, 3);
        late.takeOver(0);
        Check.steps(late, 0, 2, 2, 2);
        late.replace(0);
        late.replace(1);
        Check.steps(late, 0, 2, 0);
        Check.no("three were taken, though five are there now", late.isUp(0));
        Run again = new Run();
        Check.takeOverWhole(again, 0);
        Check.loseAll(again, 24);
        again.takeOver(0);
        Check.steps(again, 0, 2, 2, 2, 2, 0);
        Check.no("those of the take-over before do not count", again.isUp(0));
    }

    private static void mirrorEntriesBecomeDirty() {
        Check.sentence("Step 2: each mirror entry becomes a dirty cache entry with a new version, by block, and goes");
        Run none = new Run();
        Check.takeOverWhole(none, 1);
        Check.same("none", none.dirty(1), 0);
        Run x = new Run();
        for (int block = 0; block < 16; block++) {
            x.write(0, block, 70 + block);
        }
        Check.deliverTo(x, 1);
        int own = x.write(1, 31, 5);
        Check.takeOverWhole(x, 1);
        Check.same("all, and its own", x.dirty(1), 17);
        Check.same("no mirror entry", x.mirrored(1), 0);
        for (int block = 0; block < 16; block++) {
            Check.same("block " + block, Check.readValue(x, 1, block), 70 + block);
        }
        Check.same("its own", Check.readValue(x, 1, 31), 5);
        Check.same("open", x.ticket(own), 0);
        Run other = new Run();
        other.write(1, 16, 1);
        other.write(1, 31, 2);
        Check.deliverTo(other, 0);
        Check.takeOverWhole(other, 0);
        Check.same("block 16", Check.readValue(other, 0, 16), 1);
        Check.same("block 31", Check.readValue(other, 0, 31), 2);
        Check.same("dirty", other.dirty(0), 2);
    }

    /** All stripes of a volume are on the disks, their notes are there still, and the partner has heard of them. */
    private static Run withNotes(int owner) {
        Run x = new Run();
        for (int stripe = 4 * owner; stripe < 4 * owner + 4; stripe++) {
            x.write(owner, 4 * stripe, 60 + stripe);
        }
        x.flush(owner);
        for (int i = 0; i < 4; i++) {
            Check.steps(x, owner, 5, 4, 1, 4, 1, 4);
        }
        Check.deliver(x);
        Check.same("remarks", x.remarks(1 - owner), 15 << 4 * owner);
        return x;
    }

    private static void remarksBecomeNotesAndRepairs() {
        Check.sentence("Step 2: each stripe that has a remark has a note and is to be repaired; remarks go");
        for (int owner = 0; owner < 2; owner++) {
            Run x = withNotes(owner);
            Check.steps(x, owner, 6);
            Check.deliver(x);
            int remarks = 14 << 4 * owner;
            Check.takeOverWhole(x, 1 - owner);
            Check.same("remarks", x.remarks(1 - owner), 0);
            Check.same("notes", x.notes(1 - owner), remarks);
            Check.same("to be repaired", x.repairs(1 - owner), remarks);
        }
    }

    /** What is to be repaired, and noted, stays so when its controller takes over again. */
    private static void repairsOfTakingOverTwice() {
        Check.sentence("Step 2: each stripe that has a remark has a note and is to be repaired");
        Run x = withNotes(0);
        Check.takeOverWhole(x, 1);
        Check.takeOverWhole(x, 1);
        Check.same("notes", x.notes(1), 15);
        Check.same("to be repaired still", x.repairs(1), 15);
        Run own = withNotes(0);
        own.write(1, 31, 5);
        own.flush(1);
        Check.steps(own, 1, 5, 4, 1, 4, 1, 4);
        Check.takeOverWhole(own, 1);
        Check.same("its own note, too", own.notes(1), 15 | 128);
        Check.same("which is not to be repaired", own.repairs(1), 15);
    }

    private static void repairOfTheLowest() {
        Check.sentence("Step 3: REPAIR of the lowest stripe that is to be ... it is to be repaired no more");
        for (int owner = 0; owner < 2; owner++) {
            int taker = 1 - owner;
            Run x = withNotes(owner);
            Check.takeOverWhole(x, taker);
            for (int i = 0; i < 4; i++) {
                Check.same("to be repaired", x.repairs(taker), (15 << i & 15) << 4 * owner);
                Check.steps(x, taker, 3, 1);
            }
            Check.same("to be repaired", x.repairs(taker), 0);
            Check.steps(x, taker, 6, 6, 6, 6, 9);
        }
    }

    private static void repairIfNoneIsMissing() {
        Check.sentence("Step 3: a write of its parity ... is under way, if none of its blocks is missing");
        for (int disk = 0; disk < 5; disk++) {
            Run lost = torn();
            lost.lose(disk);
            Check.steps(lost, 1, 3, 5);
            Check.same("to be repaired no more", lost.repairs(1), 0);
            Run anew = torn();
            anew.lose(disk);
            anew.replace(disk);
            Check.steps(anew, 1, 3, 5);
            Run rebuilt = torn();
            rebuilt.lose(disk);
            rebuilt.replace(disk);
            Check.same("rebuild", rebuilt.rebuild(disk), 0);
            Check.steps(rebuilt, 1, 3, 1, 5);
            Check.same("good", rebuilt.parityGood(0), 1);
        }
        Run whole = torn();
        Check.same("torn", whole.parityGood(0), 0);
        Check.steps(whole, 1, 3, 1, 5);
        Check.same("good", whole.parityGood(0), 1);
        Check.same("parity", whole.onDisk(4, 0), 6);
    }

    /** Controller 1 has taken over and is to repair stripe 0, of which a data block alone has come to the disks. */
    private static Run torn() {
        Run x = new Run();
        x.write(0, 0, 6);
        x.flush(0);
        Check.steps(x, 0, 5, 4, 1);
        Check.deliver(x);
        Check.takeOverWhole(x, 1);
        Check.same("to be repaired", x.repairs(1), 1);
        return x;
    }

    private static void dirtyBlocksOnLostDisksAreLeftOut() {
        Check.sentence("Step 4: the next dirty data block's write is under way, those on lost disks left out");
        for (int stripe = 0; stripe < 8; stripe++) {
            for (int missing = 0; missing < 32; missing++) {
                destagesWhole(stripe, missing, 0);
                if (missing != 31) {
                    destagesWhole(stripe, 0, missing);
                }
            }
        }
    }

    /** All four blocks are dirty, so no data are lost, however few disks are there or have their blocks. */
    private static void destagesWhole(int stripe, int lost, int replaced) {
        Run x = new Run();
        int owner = stripe / 4;
        Check.loseAll(x, lost);
        replaceAll(x, replaced);
        int parity = 0;
        for (int block = 4 * stripe; block < 4 * stripe + 4; block++) {
            x.write(owner, block, Check.someValue(block));
            parity ^= Check.someValue(block);
        }
        x.flush(owner);
        Check.steps(x, owner, 5);
        for (int block = 4 * stripe; block < 4 * stripe + 4; block++) {
            if ((lost >> Check.disk(block) & 1) == 0) {
                Check.steps(x, owner, 4, 1);
                Check.same("block " + block, Check.onDisk(x, block), Check.someValue(block));
            }
        }
        if ((lost >> Check.parityDisk(stripe) & 1) == 0) {
            Check.steps(x, owner, 4, 1);
            Check.same("parity", x.onDisk(Check.parityDisk(stripe), stripe), parity);
        }
        Check.same("dirty still", x.dirty(owner), 4);
        Check.steps(x, owner, 4);
        Check.same("stripe " + stripe + ", lost " + lost + ", dirty", x.dirty(owner), 0);
        Check.same("destages", x.destages(owner), Run.NONE);
    }

    /** Disks that are there, with the key that all have, but without any block. */
    private static void replaceAll(Run x, int disks) {
        Check.loseAll(x, disks);
        for (int d = 0; d < 5; d++) {
            if ((disks >> d & 1) == 1) {
                Check.yes("replace", x.replace(d));
                Check.same("key", x.keyOf(d), 1);
            }
        }
    }

    private static void parityIfItsDiskIsThereAndNoDataWereLost() {
        Check.sentence("Step 4: behind these the parity's, if its disk is there and no data were lost");
        for (int block = 0; block < 32; block++) {
            for (int missing = 0; missing < 32; missing++) {
                destagesOne(block, missing, 0);
                if (missing != 31) {
                    destagesOne(block, 0, missing);
                }
            }
        }
    }

    /** One block is dirty; another one's data are lost if it is missing, and a second one. */
    private static void destagesOne(int block, int lost, int replaced) {
        int owner = block / 16;
        int stripe = block / 4;
        int parityDisk = Check.parityDisk(stripe);
        int otherData = 31 & ~(1 << parityDisk) & ~(1 << Check.disk(block));
        int missing = lost | replaced;
        boolean dataAreLost = (missing & otherData) != 0 && Integer.bitCount(missing) >= 2;
        Run x = Check.withStripe(stripe);
        int old = x.onDisk(parityDisk, stripe);
        Check.loseAll(x, lost);
        replaceAll(x, replaced);
        x.write(owner, block, 9);
        x.flush(owner);
        Check.steps(x, owner, 5);
        if ((lost >> Check.disk(block) & 1) == 0) {
            Check.steps(x, owner, 4, 1);
            Check.same("block", Check.onDisk(x, block), 9);
        }
        String when = "block " + block + ", lost " + lost + ", replaced " + replaced;
        if ((lost >> parityDisk & 1) == 0 && !dataAreLost) {
            Check.steps(x, owner, 4, 1);
            Check.same(when + ", parity", x.onDisk(parityDisk, stripe), old ^ Check.someValue(block) ^ 9);
        } else if ((missing >> parityDisk & 1) == 0) {
            Check.same(when + ", parity as it was", x.onDisk(parityDisk, stripe), old);
        } else {
            Check.noSuchElement(when + ", no parity", () -> x.onDisk(parityDisk, stripe));
        }
        Check.steps(x, owner, 4, 6, 7);
    }

    private static void whatWasLostIsSaidWhenItIsTaken() {
        Check.sentence("Steps 4, 5: and no data were lost ... taken are ... what the other data of the stripe are");
        Run before = Check.withStripe(0);
        before.lose(1);
        before.lose(2);
        before.write(0, 0, 9);
        before.flush(0);
        Check.steps(before, 0, 5);
        before.replace(1);
        before.replace(2);
        Check.steps(before, 0, 4, 1, 4, 6);
        Run behind = Check.withStripe(0);
        int old = behind.onDisk(4, 0);
        behind.write(0, 0, 9);
        behind.flush(0);
        Check.steps(behind, 0, 5);
        behind.lose(1);
        behind.lose(2);
        Check.steps(behind, 0, 4, 1, 4, 1, 4, 6);
        Check.same("of what was taken", behind.onDisk(4, 0), old ^ Check.someValue(0) ^ 9);
        Run meanwhile = Check.withStripe(0);
        meanwhile.write(0, 0, 9);
        meanwhile.flush(0);
        Check.steps(meanwhile, 0, 5, 4, 1);
        meanwhile.lose(4);
        Check.steps(meanwhile, 0, 4, 6);
        Run anew = Check.withStripe(0);
        anew.write(0, 0, 9);
        anew.flush(0);
        anew.lose(4);
        Check.steps(anew, 0, 5, 4, 1);
        anew.replace(4);
        Check.steps(anew, 0, 4, 1, 4, 6);
        Check.same("its disk is there by now", anew.onDisk(4, 0), old ^ Check.someValue(0) ^ 9);
    }

    /** What two lost disks had is in the cache alone; and a late write has landed under an entry. */
    private static void otherDataAreThoseOfTheDisks() {
        Check.sentence("Step 5: taken are ... what the other data of the stripe are");
        Run lost = Check.withStripe(0);
        for (int block = 1; block < 4; block++) {
            Check.same("read", Check.readValue(lost, 0, block), Check.someValue(block));
        }
        lost.lose(1);
        lost.lose(2);
        lost.write(0, 0, 9);
        lost.flush(0);
        Check.steps(lost, 0, 5, 4, 1, 4, 6);
        Run late = new Run();
        late.write(0, 1, 8);
        late.flush(0);
        Check.steps(late, 0, 5, 4);
        late.crash(0);
        late.restart(0);
        Check.yes("pair", late.pair());
        Check.same("the entry", Check.readValue(late, 0, 1), 0);
        Check.same("lands under it", late.late(0), 1);
        late.write(0, 0, 1);
        late.flush(0);
        Check.steps(late, 0, 5, 4, 1, 4, 1, 4);
        Check.same("the entry", Check.readValue(late, 0, 1), 0);
        Check.same("parity of what the disk has", late.onDisk(4, 0), 1 ^ 8);
    }

    private static void lostDataOfTheOneBefore() {
        Check.sentence("Step 4: and no data were lost");
        Run x = new Run();
        Check.makeAlone(x, 0);
        x.lose(1);
        x.lose(2);
        x.write(0, 0, 9);
        Check.steps(x, 0, 5, 4, 1, 4, 6);
        x.write(0, 4, 1);
        x.write(0, 5, 2);
        x.write(0, 6, 4);
        Check.steps(x, 0, 5, 4, 1, 4, 1, 4, 6);
        Check.same("none of this one's were lost", x.onDisk(3, 1), 1 ^ 2 ^ 4);
    }

    private static void sameVersionStill() {
        Check.sentence("Step 4: each entry that was taken and has the same version still is not dirty any more");
        for (int behind = 0; behind <= 4; behind++) {
            Run x = new Run();
            x.write(0, 0, 5);
            x.write(0, 1, 6);
            Check.deliver(x);
            x.flush(0);
            Check.steps(x, 0, 5);
            int[] steps = {4, 1, 4, 1, 4, 1};
            for (int i = 0; i < steps.length; i++) {
                if (i == behind) {
                    x.write(0, 0, 7);
                }
                Check.steps(x, 0, steps[i]);
            }
            Check.steps(x, 0, 4);
            Check.same("written again: dirty", x.dirty(0), 1);
            Check.arrivals(x, 1, 3, 0, 2, Run.NONE);
            Check.same("mirror", x.mirrored(1), 1);
            Check.same("what was taken is on the disk", x.onDisk(0, 0), 5);
            Check.same("and its parity", x.onDisk(4, 0), 5 ^ 6);
        }
        Run same = new Run();
        same.write(0, 0, 5);
        same.flush(0);
        Check.steps(same, 0, 5);
        same.write(0, 0, 5);
        Check.steps(same, 0, 4, 1, 4, 1, 4);
        Check.same("the same value, but another version: dirty", same.dirty(0), 1);
        Run after = new Run();
        after.write(0, 0, 5);
        Check.deliver(after);
        after.flush(0);
        Check.steps(after, 0, 5, 4, 1, 4, 1, 4);
        Check.same("not written again", after.dirty(0), 0);
        after.write(0, 0, 5);
        Check.same("written behind it", after.dirty(0), 1);
    }

    private static void forgetGoesIfItIsPaired() {
        Check.sentence("Step 4: and FORGET goes, if it is paired");
        Run paired = new Run();
        paired.write(0, 0, 5);
        paired.flush(0);
        Check.steps(paired, 0, 5, 4, 1, 4, 1);
        Check.same("MIRROR, NOTE", paired.messages(1), 2);
        Check.steps(paired, 0, 4);
        Check.same("and FORGET", paired.messages(1), 3);
        Check.same("open: it is paired", paired.ticket(0), 0);
        Run read = new Run();
        Check.same("an entry that is not taken", Check.readValue(read, 0, 1), 0);
        read.write(0, 0, 5);
        read.flush(0);
        Check.steps(read, 0, 5, 4, 1, 4, 1, 4);
        Check.same("MIRROR, NOTE, one FORGET", read.messages(1), 3);
        Run alone = new Run();
        alone.write(0, 0, 5);
        alone.flush(0);
        Check.steps(alone, 0, 5);
        Check.takeOverWhole(alone, 0);
        Check.steps(alone, 0, 4, 1, 4, 1, 4);
        Check.same("MIRROR, NOTE", alone.messages(1), 2);
        Check.same("done: it is alone", alone.ticket(0), 1);
    }

    private static void openWritesUpToTheTakenVersion() {
        Check.sentence("Step 4: open writes (of this controller) ... with versions up to the taken one, are done");
        Run x = new Run();
        int others = x.write(1, 16, 1);
        Check.makeAlone(x, 0);
        int first = x.write(0, 0, 1);
        int beside = x.write(0, 2, 1);
        int last = x.write(0, 0, 2);
        Check.steps(x, 0, 5);
        int next = x.write(0, 0, 3);
        int notTaken = x.write(0, 1, 1);
        int otherStripe = x.write(0, 4, 1);
        Check.steps(x, 0, 4, 1, 4, 1, 4, 1);
        for (int t : new int[] {first, beside, last, next, notTaken, otherStripe, others}) {
            Check.same("open until the end", x.ticket(t), 0);
        }
        Check.steps(x, 0, 4);
        Check.same("a version before the taken one", x.ticket(first), 1);
        Check.same("the taken one", x.ticket(last), 1);
        Check.same("the taken one of another block", x.ticket(beside), 1);
        Check.same("the version behind the taken one", x.ticket(next), 0);
        Check.same("a block that was not taken", x.ticket(notTaken), 0);
        Check.same("another stripe", x.ticket(otherStripe), 0);
        Check.same("the other controller's", x.ticket(others), 0);
        openWritesOfThisControllerAlone();
        openWritesOfOlderVersions();
        refusedWritesStayRefused();
    }

    /** Blocks that were not taken, with lower versions: of another stripe, and of this one, on its disk by now. */
    private static void openWritesOfOlderVersions() {
        Run x = new Run();
        x.cut(true);
        int onDisk = x.write(0, 0, 1);
        x.flush(0);
        Check.steps(x, 0, 5, 4, 1, 4, 1, 4, 6, 7);
        Check.same("its MIRROR was lost, and it is paired", x.ticket(onDisk), 0);
        Check.steps(x, 0, 8, 8, 8, 8);
        int otherStripe = x.write(0, 4, 1);
        int taken = x.write(0, 1, 1);
        int takenToo = x.write(0, 2, 1);
        Check.steps(x, 0, 5);
        Check.same("destages", x.destages(0), 0);
        Check.steps(x, 0, 4, 1, 4, 1, 4, 1, 4);
        Check.same("taken", x.ticket(taken) + x.ticket(takenToo), 2);
        Check.same("of another stripe", x.ticket(otherStripe), 0);
        Check.same("of this one, but not taken", x.ticket(onDisk), 0);
    }

    private static void refusedWritesStayRefused() {
        Run x = new Run();
        int atOnce = x.write(0, 16, 1);
        int whenDown = x.write(0, 0, 1);
        x.crash(0);
        x.restart(0);
        Check.yes("pair", x.pair());
        Check.makeAlone(x, 0);
        int t = x.write(0, 0, 2);
        Check.steps(x, 0, 5, 4, 1, 4, 1, 4);
        Check.same("open", x.ticket(t), 1);
        Check.same("refused at once", x.ticket(atOnce), 2);
        Check.same("refused when it went down", x.ticket(whenDown), 2);
    }

    /** Both own volume 0 and have an open write of block 0, that of controller 0 with the lower version. */
    private static void openWritesOfThisControllerAlone() {
        Run x = new Run();
        int zeros = x.write(0, 0, 1);
        x.write(1, 16, 1);
        Check.takeOverWhole(x, 1);
        int ones = x.write(1, 0, 2);
        Check.steps(x, 1, 5);
        Check.same("destages", x.destages(1), 0);
        Check.steps(x, 1, 4, 1, 4, 1, 4);
        Check.same("its own", x.ticket(ones), 1);
        Check.same("the other one's of the same block", x.ticket(zeros), 0);
    }

    private static void openWritesOfBlocksLeftOut() {
        Check.sentence("Step 4: open writes ... of all blocks that were taken ... are done");
        Run x = new Run();
        Check.makeAlone(x, 0);
        int t = x.write(0, 0, 1);
        Check.loseAll(x, 31);
        Check.steps(x, 0, 5, 4);
        Check.same("done, though nothing could be written", x.ticket(t), 1);
        Check.same("not dirty", x.dirty(0), 0);
    }

    private static void destagesIfToldOrAlone() {
        Check.sentence("Step 5: If it is told to flush, or alone, and a cache entry is dirty");
        Run neither = new Run();
        neither.write(0, 0, 1);
        Check.steps(neither, 0, 8);
        Run told = new Run();
        told.flush(0);
        Check.steps(told, 0, 7);
        told.write(0, 0, 1);
        Check.steps(told, 0, 8);
        told.flush(0);
        Check.steps(told, 0, 5);
        Run alone = new Run();
        Check.makeAlone(alone, 0);
        Check.steps(alone, 0, 9);
        alone.write(0, 0, 1);
        Check.steps(alone, 0, 5);
        Run both = new Run();
        Check.makeAlone(both, 0);
        both.flush(0);
        Check.steps(both, 0, 7, 9);
        both.flush(0);
        both.write(0, 0, 1);
        Check.steps(both, 0, 5);
        Run three = new Run();
        three.write(0, 0, 1);
        Check.steps(three, 0, 8, 8, 8, 8, 5);
    }

    private static void dirty(Run x, int controller, int stripe, int count) {
        for (int i = 3; i > 3 - count; i--) {
            x.write(controller, 4 * stripe + i, 1);
        }
    }

    /** Controller 1 owns both volumes, so all eight stripes may be dirty. */
    private static Run withBothVolumes() {
        Run x = new Run();
        Check.takeOverWhole(x, 1);
        return x;
    }

    private static void destagesTheStripeWithTheMost() {
        Check.sentence("Step 5: it DESTAGES the stripe with the most dirty entries");
        for (int most = 0; most < 8; most++) {
            for (int other = 0; other < 8; other++) {
                for (int count = 0; count < 4 && other != most; count++) {
                    Run x = withBothVolumes();
                    dirty(x, 1, other, count);
                    dirty(x, 1, most, count + 1);
                    Check.steps(x, 1, 5);
                    Check.same("more than stripe " + other, x.destages(1), most);
                    Check.same("note", x.notes(1), 1 << most);
                }
            }
        }
    }

    private static void destagesOfThoseTheLowest() {
        Check.sentence("Step 5: (of those the lowest)");
        for (int low = 0; low < 8; low++) {
            for (int high = low + 1; high < 8; high++) {
                for (int count = 1; count <= 4; count++) {
                    Run x = withBothVolumes();
                    dirty(x, 1, high, count);
                    dirty(x, 1, low, count);
                    Check.steps(x, 1, 5);
                    Check.same("as many as stripe " + high, x.destages(1), low);
                }
            }
        }
        Run all = withBothVolumes();
        for (int stripe = 7; stripe >= 0; stripe--) {
            dirty(all, 1, stripe, 1);
        }
        for (int stripe = 0; stripe < 8; stripe++) {
            Check.steps(all, 1, 5);
            Check.same("each of them in turn", all.destages(1), stripe);
            Check.steps(all, 1, 4, 1, 4, 1, 4);
        }
        Check.steps(all, 1, 6);
    }

    private static void cleanEntriesDoNotCount() {
        Check.sentence("Step 5: and a cache entry is dirty ... the stripe with the most dirty entries");
        Run x = withBothVolumes();
        for (int block = 0; block < 4; block++) {
            Check.same("read", Check.readValue(x, 1, block), 0);
        }
        Check.steps(x, 1, 9);
        dirty(x, 1, 7, 1);
        Check.steps(x, 1, 5);
        Check.same("destages", x.destages(1), 7);
    }

    private static void noteGoesIfItIsPaired() {
        Check.sentence("Step 5: the note is there (NOTE goes, if it is paired)");
        for (int stripe = 0; stripe < 8; stripe++) {
            int owner = stripe / 4;
            Run paired = new Run();
            dirty(paired, owner, stripe, 1);
            Check.deliver(paired);
            paired.flush(owner);
            Check.steps(paired, owner, 5);
            Check.same("note", paired.notes(owner), 1 << stripe);
            Check.arrivals(paired, 1 - owner, 3, Run.NONE);
            Check.same("remark", paired.remarks(1 - owner), 1 << stripe);
            Run alone = new Run();
            Check.makeAlone(alone, owner);
            dirty(alone, owner, stripe, 1);
            Check.steps(alone, owner, 5);
            Check.same("note", alone.notes(owner), 1 << stripe);
            Check.arrivals(alone, 1 - owner, Run.NONE);
        }
    }

    private static void lowestNoteGoes() {
        Check.sentence("Step 6: The lowest note ... goes");
        for (int owner = 0; owner < 2; owner++) {
            Run x = withNotes(owner);
            for (int i = 1; i <= 4; i++) {
                Check.steps(x, owner, 6);
                Check.same("notes", x.notes(owner), (15 << i & 15) << 4 * owner);
                Check.arrivals(x, 1 - owner, 4, Run.NONE);
                Check.same("remarks", x.remarks(1 - owner), (15 << i & 15) << 4 * owner);
            }
            Check.steps(x, owner, 7);
        }
    }

    /** Controller 1 has heard NOTE but not CLOSE of a stripe that is its own now. */
    private static void notesOfStripesWithARemark() {
        Check.sentence("Step 6: The lowest note of a stripe that is not to be repaired goes");
        Run x = new Run();
        Check.mirrored(x, 0, 0, 5);
        x.flush(0);
        Check.steps(x, 0, 5, 4, 1, 4, 1, 4);
        Check.deliver(x);
        x.cut(true);
        Check.steps(x, 0, 6, 7);
        x.cut(false);
        Check.yes("moveOwner", x.moveOwner(0));
        Check.same("remarks", x.remarks(1), 1);
        x.write(1, 0, 6);
        x.flush(1);
        Check.steps(x, 1, 5, 4, 1, 4, 1, 4);
        Check.same("notes", x.notes(1), 1);
        Check.steps(x, 1, 6, 7);
        Check.same("notes", x.notes(1), 0);
        Check.same("remarks", x.remarks(1), 1);
    }

    /** Repairs go before notes, so no note goes before all repairs are begun, also if none of them needs a write. */
    private static void notesToBeRepairedStay() {
        Check.sentence("Step 6: note of a stripe that is not to be repaired");
        Run x = withNotes(0);
        Check.takeOverWhole(x, 1);
        x.lose(0);
        for (int i = 1; i <= 4; i++) {
            Check.steps(x, 1, 3);
            Check.same("to be repaired", x.repairs(1), 15 << i & 15);
            Check.same("notes", x.notes(1), 15);
        }
        Check.steps(x, 1, 6);
        Check.same("notes", x.notes(1), 14);
        Check.steps(x, 1, 6, 6, 6, 9);
    }

    private static void closeGoesIfItIsPaired() {
        Check.sentence("Step 6: CLOSE goes, if it is paired");
        Run paired = withNotes(1);
        Check.steps(paired, 1, 6);
        Check.same("paired", paired.messages(0), 1);
        Run alone = withNotes(1);
        Check.takeOverWhole(alone, 1);
        Check.steps(alone, 1, 6, 6, 6, 6, 7, 9);
        Check.same("alone", alone.messages(0), 0);
        Check.same("its partner's remarks stay", alone.remarks(0), 15 << 4);
    }

    private static void toldToFlushNoMore() {
        Check.sentence("Step 7: It is told to flush: it isn't any more");
        Run x = withNotes(0);
        Check.yes("told", x.isToFlush(0));
        Check.steps(x, 0, 6, 6, 6, 6);
        Check.yes("told still", x.isToFlush(0));
        Check.steps(x, 0, 7);
        Check.no("told", x.isToFlush(0));
        Check.steps(x, 0, 8);
        x.flush(0);
        x.flush(0);
        Check.steps(x, 0, 7, 8);
    }

    private static void aloneWithTheFourthBeat() {
        Check.sentence("Step 8: BEAT goes, one beat more is missed; with the fourth it is alone");
        for (int c = 0; c < 2; c++) {
            Run x = new Run();
            for (int beats = 1; beats <= 4; beats++) {
                Check.steps(x, c, 8);
                Check.same("missed", x.missedBeats(c), beats);
                Check.same("messages", x.messages(1 - c), beats);
                Check.same("paired with " + beats, x.state(c, 6), beats < 4 ? 1 : 0);
                Check.yes("its partner is paired", x.isPaired(1 - c));
            }
            Check.steps(x, c, 9);
            Check.same("missed", x.missedBeats(c), 4);
            Check.same("messages", x.messages(1 - c), 4);
            Check.same("owns", x.owns(c), 1 << c);
        }
    }

    private static void nothingToDo() {
        Check.sentence("Step 9: Nothing");
        Run x = new Run();
        Check.makeAlone(x, 1);
        Check.refused("alone", x, 9, y -> y.step(1), y -> y.step(1));
        x.crash(0);
        x.restart(0);
        Check.refused("restarted", x, 9, y -> y.step(0), y -> y.step(0));
    }

    private static void zeroWhenDown() {
        Check.sentence("Promise 6: 0 when the controller is down");
        for (int c = 0; c < 2; c++) {
            int controller = c;
            Run x = new Run();
            x.write(c, 16 * c, 5);
            x.write(1 - c, 16 * (1 - c), 5);
            x.flush(c);
            Check.steps(x, c, 5, 4);
            x.crash(c);
            Check.refused("down", x, 0, y -> y.step(controller), y -> y.step(controller));
            Check.steps(x, 1 - c, 8);
            x.restart(c);
            Check.steps(x, c, 9);
        }
    }

    private static void noneOfNoController() {
        Check.sentence("Promise 6: NONE when there is none");
        Run x = withWriteUnderWay(0);
        x.write(1, 16, 5);
        x.flush(1);
        for (int n : NO_CONTROLLER) {
            Check.refused("controller " + n, x, Run.NONE, y -> y.step(n));
        }
        Check.steps(x, 0, 1);
        Check.steps(x, 1, 5);
    }
}
