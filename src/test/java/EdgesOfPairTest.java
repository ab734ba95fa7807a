/** The edges that the document names for promise 11, pair: each reason for false by itself, and what becomes of all. */
final class EdgesOfPairTest {
    public static void main(String[] args) {
        againAlsoIfTheyAre();
        notWhileOneIsDown();
        notWhileOneIsTakingOver();
        notWhileOneIsDestaging();
        notWhileOneHasADirtyEntry();
        notWhileOneHasANote();
        notWhileOneHasAWriteUnderWay();
        notWhileTheLinkIsCut();
        notUnlessAKeyIsThatOfAllDisks();
        notWithNoOnesKey();
        notWithAMirrorEntryOfAVolumeThatNoneOwns();
        alsoWithAMirrorEntryOfAVolumeThatOneOwns();
        refusedLeavesWhatWasThere();
        elseNothingHinders();
        bothHaveThisKeyThen();
        noCacheEntries();
        noMirrorEntriesRemarksBeatsMessages();
        volumeThatNoneOwned();
        volumeThatBothOwned();
        volumeThatOneOwned();
        Check.end();
    }

    private static void refused(String what, Run x) {
        Check.refused(what, x, 0, y -> Run.bit(y.pair()));
    }

    private static void pairs(String what, Run x) {
        Check.yes(what, x.pair());
        Check.yes("0 is paired", x.isPaired(0));
        Check.yes("1 is paired", x.isPaired(1));
    }

    private static void againAlsoIfTheyAre() {
        Check.sentence("Promise 11: Both are paired (again, also if they are)");
        Run x = new Run();
        pairs("as they are", x);
        pairs("and again", x);
        for (int c = 0; c < 2; c++) {
            Run alone = new Run();
            Check.makeAlone(alone, c);
            pairs("one is alone", alone);
        }
        Run both = new Run();
        Check.makeAlone(both, 0);
        Check.makeAlone(both, 1);
        pairs("both are alone", both);
    }

    private static void notWhileOneIsDown() {
        Check.sentence("Promise 11: false unless both are up");
        for (int down = 1; down < 4; down++) {
            Run x = new Run();
            for (int c = 0; c < 2; c++) {
                if ((down >> c & 1) == 1) {
                    x.crash(c);
                }
            }
            refused("down " + down, x);
            for (int c = 0; c < 2; c++) {
                x.restart(c);
            }
            pairs("up again", x);
        }
    }

    private static void notWhileOneIsTakingOver() {
        Check.sentence("Promise 11: neither is taking over");
        for (int c = 0; c < 2; c++) {
            Run x = new Run();
            x.takeOver(c);
            refused("all keys are the partner's", x);
            Check.steps(x, c, 2, 2, 2, 2, 2);
            refused("all keys are its own", x);
            Check.steps(x, c, 2);
            pairs("takes over no more", x);
        }
    }

    private static void notWhileOneIsDestaging() {
        Check.sentence("Promise 11: neither is ... destaging");
        for (int c = 0; c < 2; c++) {
            Run x = new Run();
            x.write(c, 16 * c, 5);
            x.flush(c);
            for (int step : new int[] {5, 4, 1, 4, 1}) {
                Check.steps(x, c, step);
                Check.same("destages", x.destages(c), 4 * c);
                refused("destaging", x);
            }
            Check.steps(x, c, 4, 6);
            pairs("destages no more", x);
        }
    }

    private static void notWhileOneHasADirtyEntry() {
        Check.sentence("Promise 11: neither ... has a dirty entry");
        for (int block = 0; block < 32; block++) {
            Run x = new Run();
            Check.same("read", Check.readValue(x, block / 16, block), 0);
            pairs("an entry that is not dirty", x);
            x.write(block / 16, block, 5);
            refused("block " + block, x);
        }
    }

    private static void notWhileOneHasANote() {
        Check.sentence("Promise 11: neither ... a note");
        for (int stripe = 0; stripe < 8; stripe++) {
            int owner = stripe / 4;
            Run x = new Run();
            x.write(owner, 4 * stripe + 1, 5);
            x.flush(owner);
            Check.steps(x, owner, 5, 4, 1, 4, 1, 4);
            Check.same("dirty", x.dirty(owner), 0);
            Check.same("notes", x.notes(owner), 1 << stripe);
            refused("stripe " + stripe, x);
            Check.steps(x, owner, 6);
            pairs("no note", x);
        }
    }

    /** A write under way is never without a note: that of a destaging, or that of a stripe that is repaired. */
    private static void notWhileOneHasAWriteUnderWay() {
        Check.sentence("Promise 11: neither ... a write under way");
        for (int c = 0; c < 2; c++) {
            Run x = new Run();
            int partner = 1 - c;
            x.write(c, 16 * c, 5);
            x.flush(c);
            Check.steps(x, c, 5, 4, 1, 4, 1, 4);
            Check.deliver(x);
            x.crash(c);
            Check.takeOverWhole(x, partner);
            x.restart(c);
            Check.steps(x, partner, 3);
            Check.same("dirty", x.dirty(partner), 0);
            Check.same("to be repaired", x.repairs(partner), 0);
            refused("a repair's parity", x);
            Check.steps(x, partner, 1, 6);
            pairs("landed, no note", x);
        }
    }

    private static void notWhileTheLinkIsCut() {
        Check.sentence("Promise 11: the link is not cut");
        Run x = new Run();
        x.cut(true);
        refused("cut", x);
        x.cut(false);
        pairs("not cut", x);
    }

    /** Controller 0 and disks 0 .. taken - 1 have key 2, controller 1 and the other disks key 1; some are lost. */
    private static Run withKeys(int taken, int lost) {
        Run x = new Run();
        x.takeOver(0);
        for (int i = 0; i < taken; i++) {
            Check.steps(x, 0, 2);
        }
        x.crash(0);
        x.restart(0);
        Check.loseAll(x, lost);
        return x;
    }

    private static void notUnlessAKeyIsThatOfAllDisks() {
        Check.sentence("Promise 11: one of the keys is that of all disks that are there");
        for (int taken = 0; taken <= 5; taken++) {
            for (int lost = 0; lost < 31; lost++) {
                Run x = withKeys(taken, lost);
                boolean anyOfKey2 = ((1 << taken) - 1 & ~lost) != 0;
                boolean anyOfKey1 = (31 & ~((1 << taken) - 1) & ~lost) != 0;
                if (anyOfKey1 && anyOfKey2) {
                    refused(taken + " taken, lost " + lost, x);
                } else {
                    pairs(taken + " taken, lost " + lost, x);
                    Check.same("0's key", x.key(0), anyOfKey2 ? 2 : 1);
                    Check.same("1's key", x.key(1), anyOfKey2 ? 2 : 1);
                }
            }
        }
    }

    private static void notWithNoOnesKey() {
        Check.sentence("Promise 11: one of the keys is that of all disks that are there");
        for (int disk = 0; disk < 5; disk++) {
            Run x = withKeys(5, 31 & ~(1 << disk));
            Check.yes("takeOver", x.takeOver(0));
            x.crash(0);
            x.restart(0);
            Check.same("0's key, the disk's and 1's", x.key(0) * 100 + x.keyOf(disk) * 10 + x.key(1), 321);
            refused("disk " + disk + " alone is there", x);
        }
        Run zeros = new Run();
        Check.loseAll(zeros, 31);
        zeros.replace(4);
        Check.same("key", zeros.keyOf(4), 0);
        refused("a disk of key 0", zeros);
        zeros.lose(4);
        pairs("without it", zeros);
    }

    /** Each volume, and its mirror at each controller, with its first and its last block. */
    private static void notWithAMirrorEntryOfAVolumeThatNoneOwns() {
        Check.sentence(
            "Promise 11: of a volume that none owns neither has a mirror entry (it is to be taken over first)");
        for (int block : new int[] {0, 7, 15, 16, 23, 31}) {
            for (int owner = 0; owner < 2; owner++) {
                int volume = block / 16;
                Run x = new Run();
                if (owner != volume) {
                    Check.yes("moveOwner", x.moveOwner(volume));
                }
                Check.mirrored(x, owner, block, 5);
                x.crash(owner);
                x.restart(owner);
                Check.same("none owns it", (x.owns(0) | x.owns(1)) & 1 << volume, 0);
                refused("block " + block + ", mirrored at " + (1 - owner), x);
                Check.takeOverWhole(x, 1 - owner);
                Check.steps(x, 1 - owner, 5, 4, 1, 4, 1, 4, 6);
                pairs("taken over", x);
                Check.same("read", Check.readValue(x, 1 - owner, block), 5);
                none(block, owner);
            }
        }
    }

    private static void none(int block, int owner) {
        Run x = new Run();
        if (owner != block / 16) {
            Check.yes("moveOwner", x.moveOwner(block / 16));
        }
        x.write(owner, block, 5);
        x.crash(owner);
        x.restart(owner);
        pairs("no mirror entry: it is on its way still", x);
    }

    private static void alsoWithAMirrorEntryOfAVolumeThatOneOwns() {
        Check.sentence("Promise 11: of a volume that none owns neither has a mirror entry");
        for (int owner = 0; owner < 2; owner++) {
            Run x = new Run();
            Check.mirrored(x, owner, 16 * owner + 15, 5);
            x.flush(owner);
            Check.steps(x, owner, 5, 4, 1, 4, 1, 4, 6);
            Check.same("mirror, FORGET has not arrived", x.mirrored(1 - owner), 1);
            pairs("owned", x);
            Check.same("mirror", x.mirrored(1 - owner), 0);
        }
    }

    /** Each reason again where there is much that could be gone behind a call that is refused. */
    private static void refusedLeavesWhatWasThere() {
        Check.sentence("Promise 11: false unless ... are refused, changing nothing");
        for (int c = 0; c < 2; c++) {
            Run down = withRemainsAndMessages();
            down.crash(c);
            refused("down", down);
            Run taking = withRemainsAndMessages();
            taking.takeOver(c);
            refused("taking over", taking);
            Run dirty = withRemainsAndMessages();
            dirty.write(c, 16 * c + 1, 5);
            refused("dirty", dirty);
            dirty.flush(c);
            Check.steps(dirty, c, 5, 4);
            refused("destaging, a write is under way", dirty);
            Check.steps(dirty, c, 1, 4, 1, 4);
            refused("noted", dirty);
            Run noneOwns = withRemainsAndMessages();
            noneOwns.takeOver(c);
            noneOwns.crash(c);
            noneOwns.restart(c);
            Check.same("another key", noneOwns.key(c), 2);
            refused("a mirror entry of a volume that none owns", noneOwns);
        }
        Run cut = withRemainsAndMessages();
        cut.cut(true);
        refused("cut", cut);
        Run keys = withRemainsAndMessages();
        Check.loseAll(keys, 31);
        keys.replace(4);
        refused("no one's key", keys);
    }

    private static Run withRemainsAndMessages() {
        Run x = Check.withRemains();
        Check.steps(x, 0, 8);
        Check.steps(x, 1, 8);
        Check.yes("pairs as it is, so what is refused behind this has one reason", x.again().pair());
        return x;
    }

    private static void elseNothingHinders() {
        Check.sentence("Promise 11: false unless ... [nothing else]");
        Run x = new Run();
        x.cut(true);
        int t = x.write(0, 0, 5);
        x.cut(false);
        x.flush(0);
        Check.steps(x, 0, 5, 4, 1, 4, 1, 4, 6);
        x.flush(1);
        Check.steps(x, 1, 7, 8);
        Check.loseAll(x, 15);
        pairs("told to flush, a ticket is open, messages, missed beats, disks are lost", x);
        Check.same("open still", x.ticket(t), 0);
        Run late = new Run();
        late.write(1, 16, 5);
        late.flush(1);
        Check.steps(late, 1, 5, 4);
        late.crash(1);
        late.restart(1);
        pairs("a write is late", late);
        Check.same("late still", late.lates(), 1);
    }

    private static void bothHaveThisKeyThen() {
        Check.sentence("Promise 11: Both have this key then");
        Run zeros = withKeys(5, 0);
        pairs("0's", zeros);
        Check.same("keys", zeros.key(0) * 10 + zeros.key(1), 22);
        Run ones = withKeys(0, 0);
        pairs("1's", ones);
        Check.same("keys", ones.key(0) * 10 + ones.key(1), 11);
        Check.same("no fence", ones.ticket(ones.read(0, 0)), 1);
    }

    private static void noCacheEntries() {
        Check.sentence("Promise 11: no cache ... entries");
        Run x = new Run();
        for (int block = 0; block < 32; block++) {
            Check.same("read", Check.readValue(x, block / 16, block), 0);
        }
        pairs("with entries", x);
        Check.loseAll(x, 31);
        for (int block = 0; block < 32; block++) {
            Check.same("no entry of block " + block, x.ticket(x.read(block / 16, block)), 2);
        }
    }

    /** One block of each volume is on the disks, but its FORGET has not arrived; both have missed a beat. */
    private static void noMirrorEntriesRemarksBeatsMessages() {
        Check.sentence("Promise 11: no ... mirror entries, remarks, missed beats, and no messages are on their way");
        Run x = new Run();
        x.write(0, 15, 5);
        x.write(1, 31, 6);
        Check.deliver(x);
        for (int c = 0; c < 2; c++) {
            x.flush(c);
            Check.steps(x, c, 5);
            Check.arrivals(x, 1 - c, 3);
            Check.steps(x, c, 4, 1, 4, 1, 4, 6, 7, 8);
        }
        for (int c = 0; c < 2; c++) {
            Check.same("mirror", x.mirrored(c), 1);
            Check.same("FORGET, CLOSE, BEAT", x.messages(c), 3);
            Check.same("missed", x.missedBeats(c), 1);
            Check.same("remarks", x.remarks(c), c == 0 ? 128 : 8);
        }
        pairs("with all of them", x);
        for (int c = 0; c < 2; c++) {
            Check.same("mirror", x.mirrored(c), 0);
            Check.same("messages", x.messages(c), 0);
            Check.same("missed", x.missedBeats(c), 0);
            Check.same("remarks", x.remarks(c), 0);
            Check.arrivals(x, c, Run.NONE);
        }
    }

    private static void volumeThatNoneOwned() {
        Check.sentence("Promise 11: a volume that none owned is controller 0's");
        for (int crashed = 0; crashed < 4; crashed++) {
            Run x = new Run();
            for (int c = 0; c < 2; c++) {
                if ((crashed >> c & 1) == 1) {
                    x.crash(c);
                    x.restart(c);
                }
            }
            pairs("pair", x);
            Check.same("crashed " + crashed + ", 0 owns", x.owns(0), 1 | crashed & 2);
            Check.same("crashed " + crashed + ", 1 owns", x.owns(1), 2 & ~crashed);
        }
        Run ones = new Run();
        Check.loseAll(ones, 3);
        ones.takeOver(1);
        Check.steps(ones, 1, 2, 2, 2, 2);
        ones.restart(1);
        pairs("the key is 1's", ones);
        Check.same("0 owns it all the same", ones.owns(0), 3);
    }

    private static void volumeThatBothOwned() {
        Check.sentence("Promise 11: of one that both owned it stays that one's whose key it was (0's if both had it)");
        for (int c = 0; c < 2; c++) {
            Run one = new Run();
            Check.takeOverWhole(one, c);
            Check.same("both own it", one.owns(0) & one.owns(1), 2 >> c);
            pairs("pair", one);
            Check.same("whose key it was", one.owns(c), 3);
            Check.same("the other one", one.owns(1 - c), 0);
            Run both = new Run();
            Check.takeOverWhole(both, 1 - c);
            Check.takeOverWhole(both, c);
            Check.same("both own both", both.owns(0) & both.owns(1), 3);
            pairs("pair", both);
            Check.same("whose key it was", both.owns(c), 3);
            Check.same("the other one", both.owns(1 - c), 0);
        }
        for (int c = 0; c < 2; c++) {
            Run same = new Run();
            Check.takeOverWhole(same, c);
            Check.loseAll(same, 31);
            for (int d = 0; d < 5; d++) {
                same.replace(d);
            }
            Check.takeOverWhole(same, 1 - c);
            Check.same("both have it", same.key(0) * 10 + same.key(1), 22);
            pairs("pair", same);
            Check.same("0's if both had it", same.owns(0), 3);
            Check.same("not 1's", same.owns(1), 0);
        }
    }

    private static void volumeThatOneOwned() {
        Check.sentence("Promise 11: a volume that none owned ... of one that both owned [another stays as it is]");
        for (int moved = 0; moved < 4; moved++) {
            Run x = new Run();
            for (int v = 0; v < 2; v++) {
                if ((moved >> v & 1) == 1) {
                    Check.yes("moveOwner", x.moveOwner(v));
                }
            }
            pairs("pair", x);
            Check.same("0 owns", x.owns(0), 1 ^ moved);
            Check.same("1 owns", x.owns(1), 2 ^ moved);
        }
    }
}
