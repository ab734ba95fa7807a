/** The edges that the document names for disks and stripes: Terms, promises 15, 16, 17, 20, 21 and 22. */
final class EdgesOfDisksTest {
    private static final int[] NO_DISK = {Integer.MIN_VALUE, -1, 5, 8, 32, Integer.MAX_VALUE};
    private static final int[] NO_STRIPE = {Integer.MIN_VALUE, -1, 8, 9, 32, Integer.MAX_VALUE};

    public static void main(String[] args) {
        parityGoesRound();
        volumesMeetBetweenBlocks15And16();
        missingWhileLostOrNotRebuilt();
        notMissingOnceItIsWritten();
        isWhatItsDiskHas();
        isTheExclusiveOrOfTheOthers();
        lostIfOneOfTheseIsMissingToo();
        loseOfALostDisk();
        loseOfNoDisk();
        replaceOfADiskThatIsThere();
        replaceOfNoDisk();
        replacedDiskHasNoBlock();
        replacedDiskHasTheGreatestKey();
        replacedDiskHasKey0WithoutAny();
        rebuildOfTheLowest();
        rebuildOfALostDisk();
        rebuildOfNoDisk();
        rebuildOfNothing();
        rebuildWithAnotherMissing();
        parityGoodOrNot();
        parityWithABlockMissing();
        parityOfNoStripe();
        onDiskOfWhatIsMissing();
        onDiskOfNone();
        keyOfALostDisk();
        keyOfNoDisk();
        Check.end();
    }

    /** The first and the last stripe of each round of five. */
    private static void parityGoesRound() {
        Check.sentence("Terms: that on disk 4 - (stripe modulo 5) is PARITY");
        for (int stripe = 0; stripe < 8; stripe++) {
            Run x = Check.withStripe(stripe);
            int parity = new int[] {4, 3, 2, 1, 0, 4, 3, 2}[stripe];
            int block = 4 * stripe;
            int xor = 0;
            for (int d = 0; d < 5; d++) {
                if (d != parity) {
                    Check.same("data on disk " + d + ", stripe " + stripe, x.onDisk(d, stripe), Check.someValue(block));
                    xor ^= Check.someValue(block);
                    block++;
                }
            }
            Check.same("parity of stripe " + stripe, x.onDisk(parity, stripe), xor);
        }
    }

    private static void volumesMeetBetweenBlocks15And16() {
        Check.sentence("Terms: VOLUME 0 is blocks 0 .. 15, volume 1 blocks 16 .. 31");
        for (int block : new int[] {0, 15, 16, 31}) {
            Run x = new Run();
            int owner = block <= 15 ? 0 : 1;
            Check.same("the owner's", x.ticket(x.write(owner, block, 1)), 0);
            Check.same("not the other one's", x.ticket(x.write(1 - owner, block, 1)), 2);
            Check.same("the owner's", x.ticket(x.read(owner, block)), 1);
            Check.same("not the other one's", x.ticket(x.read(1 - owner, block)), 2);
        }
    }

    private static void missingWhileLostOrNotRebuilt() {
        Check.sentence("Terms: a block (an int) on each disk, which is MISSING while the disk is lost, or not rebuilt");
        for (int d = 0; d < 5; d++) {
            int disk = d;
            for (int s = 0; s < 8; s++) {
                int stripe = s;
                Run x = Check.withStripe(stripe);
                int was = x.onDisk(disk, stripe);
                x.lose(disk);
                Check.noSuchElement("lost", () -> x.onDisk(disk, stripe));
                Check.no("there beside it, and another one", x.onDisk((disk + 1) % 5, stripe) == was);
                x.replace(disk);
                for (int i = 0; i <= stripe; i++) {
                    Check.noSuchElement("not rebuilt", () -> x.onDisk(disk, stripe));
                    Check.same("rebuild", x.rebuild(disk), i);
                }
                Check.same("rebuilt", x.onDisk(disk, stripe), was);
            }
        }
    }

    private static void notMissingOnceItIsWritten() {
        Check.sentence("Terms, step 1: the block is the value (and not missing)");
        Run x = new Run();
        x.lose(2);
        x.replace(2);
        x.write(0, 2, 6);
        x.flush(0);
        Check.steps(x, 0, 5, 4);
        Check.noSuchElement("not yet", () -> x.onDisk(2, 0));
        Check.steps(x, 0, 1);
        Check.same("written", x.onDisk(2, 0), 6);
        Check.noSuchElement("the next stripe is not", () -> x.onDisk(2, 1));
        Check.same("the lowest that is missing", x.rebuild(2), 1);
    }

    private static void isWhatItsDiskHas() {
        Check.sentence("Terms: What a data block IS: what its disk has");
        for (int block = 0; block < 32; block++) {
            Run x = Check.withStripe(block / 4);
            Check.loseAll(x, 31 & ~(1 << Check.disk(block)));
            int value = Check.readValue(x, block / 16, block);
            Check.same("of its disk alone, block " + block, value, Check.someValue(block));
        }
    }

    private static void isTheExclusiveOrOfTheOthers() {
        Check.sentence("Terms: or, if it is missing, the exclusive or of the stripe's four others");
        for (int block = 0; block < 32; block++) {
            Run lost = Check.withStripe(block / 4);
            lost.lose(Check.disk(block));
            Check.same("of a lost disk", Check.readValue(lost, block / 16, block), Check.someValue(block));
            Run anew = Check.withStripe(block / 4);
            anew.lose(Check.disk(block));
            anew.replace(Check.disk(block));
            Check.same("not rebuilt", Check.readValue(anew, block / 16, block), Check.someValue(block));
        }
    }

    private static void lostIfOneOfTheseIsMissingToo() {
        Check.sentence("Terms: it is LOST if one of these is missing, too");
        for (int block = 0; block < 32; block++) {
            int b = block;
            for (int other = 0; other < 5; other++) {
                if (other != Check.disk(block)) {
                    Run x = Check.withStripe(block / 4);
                    x.lose(Check.disk(block));
                    x.lose(other);
                    Check.refusedWithTicket("lost", x, 0, y -> y.read(b / 16, b));
                    x.replace(other);
                    Check.refusedWithTicket("the other one is not rebuilt", x, 0, y -> y.read(b / 16, b));
                    x.replace(Check.disk(block));
                    Check.refusedWithTicket("both are not rebuilt", x, 0, y -> y.read(b / 16, b));
                }
            }
        }
    }

    private static void loseOfALostDisk() {
        Check.sentence("Promise 15: false when it is");
        for (int disk = 0; disk < 5; disk++) {
            int d = disk;
            Run x = Check.withRemains();
            Check.yes("lose", x.lose(d));
            Check.refused("lost", x, 0, y -> Run.bit(y.lose(d)));
            x.replace(d);
            Check.yes("lose of the new one", x.lose(d));
        }
    }

    private static void loseOfNoDisk() {
        Check.sentence("Promise 15: or there is none such");
        for (int disk : NO_DISK) {
            Check.refused("disk " + disk, Check.withStripe(1), 0, y -> Run.bit(y.lose(disk)));
        }
    }

    private static void replaceOfADiskThatIsThere() {
        Check.sentence("Promise 16: A lost disk is there anew");
        for (int disk = 0; disk < 5; disk++) {
            int d = disk;
            Run x = Check.withRemains();
            Check.refused("there", x, 0, y -> Run.bit(y.replace(d)));
            x.lose(d);
            Check.yes("replace", x.replace(d));
            Check.refused("there anew", x, 0, y -> Run.bit(y.replace(d)));
        }
    }

    private static void replaceOfNoDisk() {
        Check.sentence("Promise 16 and Terms: Calls with numbers that are not as said are refused");
        Run x = Check.withStripe(3);
        Check.loseAll(x, 31);
        for (int disk : NO_DISK) {
            Check.refused("disk " + disk, x, 0, y -> Run.bit(y.replace(disk)));
        }
    }

    private static void replacedDiskHasNoBlock() {
        Check.sentence("Promise 16: no block rebuilt");
        for (int disk = 0; disk < 5; disk++) {
            int d = disk;
            Run x = new Run();
            x.lose(d);
            x.replace(d);
            for (int stripe = 0; stripe < 8; stripe++) {
                int s = stripe;
                Check.noSuchElement("missing", () -> x.onDisk(d, s));
                Check.same("parityGood", x.parityGood(s), Run.NONE);
            }
        }
    }

    /** Disks 0 .. taken - 1 have key 2, the others key 1; of these some are lost. */
    private static Run withKeys(int taken, int lost) {
        Run x = new Run();
        x.takeOver(0);
        for (int i = 0; i < taken; i++) {
            Check.steps(x, 0, 2);
        }
        Check.loseAll(x, lost);
        return x;
    }

    private static void replacedDiskHasTheGreatestKey() {
        Check.sentence("Promise 16: its key the greatest of those of disks that are there");
        for (int taken = 0; taken <= 5; taken++) {
            for (int lost = 1; lost < 31; lost++) {
                int greatest = (~lost & (1 << taken) - 1) != 0 ? 2 : 1;
                for (int d = 0; d < 5; d++) {
                    if ((lost >> d & 1) == 1) {
                        Run x = withKeys(taken, lost);
                        Check.yes("replace", x.replace(d));
                        Check.same("taken " + taken + ", lost " + lost + ", disk " + d, x.keyOf(d), greatest);
                    }
                }
            }
        }
    }

    private static void replacedDiskHasKey0WithoutAny() {
        Check.sentence("Promise 16: (0 without any)");
        for (int d = 0; d < 5; d++) {
            Run x = withKeys(3, 31);
            Check.yes("replace", x.replace(d));
            Check.same("without any", x.keyOf(d), 0);
            int next = (d + 1) % 5;
            Check.yes("replace", x.replace(next));
            Check.same("with one of key 0", x.keyOf(next), 0);
            x.crash(0);
            x.restart(0);
            Check.yes("takeOver", x.takeOver(0));
            Check.same("one more than its own", x.key(0), 3);
        }
    }

    private static void rebuildOfTheLowest() {
        Check.sentence("Promise 17: The lowest block of a disk that is missing");
        for (int d = 0; d < 5; d++) {
            Run x = Check.withStripe(7);
            int was = x.onDisk(d, 7);
            x.lose(d);
            x.replace(d);
            for (int stripe = 0; stripe < 8; stripe++) {
                Check.same("rebuild", x.rebuild(d), stripe);
                Check.same("parityGood", x.parityGood(stripe), 1);
            }
            Check.same("block", x.onDisk(d, 7), was);
            Check.same("no more", x.rebuild(d), Run.NONE);
        }
    }

    private static void rebuildOfALostDisk() {
        Check.sentence("Promise 17: NONE when the disk is lost");
        for (int disk = 0; disk < 5; disk++) {
            int d = disk;
            Run x = Check.withRemains();
            x.lose(d);
            Check.refused("lost", x, Run.NONE, y -> y.rebuild(d));
            x.replace(d);
            Check.same("there anew", x.rebuild(d), 0);
        }
    }

    private static void rebuildOfNoDisk() {
        Check.sentence("Promise 17 and Terms: Calls with numbers that are not as said are refused");
        Run x = Check.withStripe(0);
        x.lose(0);
        x.replace(0);
        for (int disk : NO_DISK) {
            Check.refused("disk " + disk, x, Run.NONE, y -> y.rebuild(disk));
        }
    }

    private static void rebuildOfNothing() {
        Check.sentence("Promise 17: NONE when ... nothing is missing");
        for (int disk = 0; disk < 5; disk++) {
            int d = disk;
            Check.refused("whole", Check.withStripe(5), Run.NONE, y -> y.rebuild(d));
            Run other = Check.withStripe(5);
            other.lose((d + 1) % 5);
            Check.refused("whole, though another one is lost", other, Run.NONE, y -> y.rebuild(d));
        }
    }

    /** In the disk's lowest stripe that is missing, which is 0 or, for the second run, 1, another is missing, too. */
    private static void rebuildWithAnotherMissing() {
        Check.sentence("Promise 17: or one of these is missing (no other stripe is looked for then)");
        for (int disk = 0; disk < 5; disk++) {
            for (int other = 0; other < 5; other++) {
                if (other != disk) {
                    int d = disk;
                    Run x = Check.withStripe(0);
                    x.lose(d);
                    x.replace(d);
                    x.lose(other);
                    Check.refused("the other one is lost", x, Run.NONE, y -> y.rebuild(d));
                    Run z = Check.withStripe(1);
                    z.lose(other);
                    z.replace(other);
                    Check.same("rebuild", z.rebuild(other), 0);
                    z.lose(d);
                    z.replace(d);
                    Check.same("rebuild beside it", z.rebuild(d), 0);
                    Check.refused("the other one is not rebuilt", z, Run.NONE, y -> y.rebuild(d));
                }
            }
        }
        noOtherStripeIsLookedFor();
    }

    /** Of disks 0 and 1 the stripes 1 .. 7 are missing, but for that of disk 1 to which a write has come. */
    private static void noOtherStripeIsLookedFor() {
        Run x = new Run();
        x.lose(0);
        x.replace(0);
        Check.same("rebuild", x.rebuild(0), 0);
        x.lose(1);
        x.replace(1);
        Check.same("rebuild", x.rebuild(1), 0);
        Check.makeAlone(x, 0);
        x.write(0, 9, 5);
        Check.steps(x, 0, 5, 4, 1, 4);
        Check.same("stripe 2 lacks the block of disk 0 alone", x.onDisk(1, 2), 5);
        Check.refused("stripe 1 is the lowest", x, Run.NONE, y -> y.rebuild(0));
        Check.noSuchElement("missing still", () -> x.onDisk(0, 2));
    }

    private static void parityGoodOrNot() {
        Check.sentence("Promise 20: 1 when a stripe's parity is the exclusive or of its data; 0");
        for (int stripe = 0; stripe < 8; stripe++) {
            Run x = new Run();
            int owner = stripe / 4;
            x.write(owner, 4 * stripe + 3, Integer.MIN_VALUE);
            x.flush(owner);
            Check.steps(x, owner, 5, 4);
            Check.same("good before", x.parityGood(stripe), 1);
            Check.steps(x, owner, 1, 4);
            for (int other = 0; other < 8; other++) {
                Check.same("stripe " + other, x.parityGood(other), other == stripe ? 0 : 1);
            }
            Check.steps(x, owner, 1);
            Check.same("good again", x.parityGood(stripe), 1);
        }
    }

    private static void parityWithABlockMissing() {
        Check.sentence("Promise 20: NONE when a block is missing");
        for (int disk = 0; disk < 5; disk++) {
            for (int stripe = 0; stripe < 8; stripe++) {
                int s = stripe;
                Run x = Check.withStripe(stripe);
                x.lose(disk);
                Check.refused("lost", x, Run.NONE, y -> y.parityGood(s));
                x.replace(disk);
                for (int i = 0; i <= stripe; i++) {
                    Check.same("not rebuilt", x.parityGood(stripe), Run.NONE);
                    Check.same("rebuild", x.rebuild(disk), i);
                }
                Check.same("rebuilt", x.parityGood(stripe), 1);
            }
        }
    }

    private static void parityOfNoStripe() {
        Check.sentence("Promise 20: or there is no such stripe");
        Run x = Check.withStripe(7);
        Check.same("the first one", x.parityGood(0), 1);
        Check.same("the last one", x.parityGood(7), 1);
        for (int stripe : NO_STRIPE) {
            Check.refused("stripe " + stripe, x, Run.NONE, y -> y.parityGood(stripe));
        }
    }

    private static void onDiskOfWhatIsMissing() {
        Check.sentence("Promise 21: NoSuchElementException: it is missing");
        Run x = Check.withStripe(7);
        Check.same("there", x.onDisk(0, 7), Check.someValue(28));
        x.lose(0);
        Check.refusedByThrow("lost", x, y -> y.onDisk(0, 7));
        x.replace(0);
        Check.refusedByThrow("not rebuilt", x, y -> y.onDisk(0, 7), y -> y.onDisk(0, 0));
        Check.same("rebuild", x.rebuild(0), 0);
        Check.same("rebuilt", x.onDisk(0, 0), 0);
        Check.refusedByThrow("not rebuilt", x, y -> y.onDisk(0, 7), y -> y.onDisk(0, 1));
    }

    private static void onDiskOfNone() {
        Check.sentence("Promise 21: NoSuchElementException: ... or there is none");
        Run x = Check.withStripe(7);
        Check.same("the first one", x.onDisk(0, 0), 0);
        Check.same("the last one", x.onDisk(4, 7), Check.someValue(31));
        for (int n : NO_DISK) {
            Check.refusedByThrow("disk " + n, x, y -> y.onDisk(n, 0), y -> y.onDisk(n, 7));
        }
        for (int n : NO_STRIPE) {
            Check.refusedByThrow("stripe " + n, x, y -> y.onDisk(0, n), y -> y.onDisk(4, n));
        }
        Check.refusedByThrow("neither", x, y -> y.onDisk(-1, 8), y -> y.onDisk(5, -1));
    }

    private static void keyOfALostDisk() {
        Check.sentence("Promise 22: NONE when it is lost");
        for (int disk = 0; disk < 5; disk++) {
            int d = disk;
            Run x = new Run();
            Check.same("there", x.keyOf(d), 1);
            x.lose(d);
            Check.refused("lost", x, Run.NONE, y -> y.keyOf(d));
            Check.same("the next one", x.keyOf((d + 1) % 5), 1);
            x.replace(d);
            Check.same("there anew", x.keyOf(d), 1);
        }
    }

    private static void keyOfNoDisk() {
        Check.sentence("Promise 22: or there is none");
        Run x = new Run();
        for (int n : NO_DISK) {
            Check.refused("disk " + n, x, Run.NONE, y -> y.keyOf(n));
        }
    }
}
