/** Promises 15, 16, 17, 20, 21 and 22: lose, replace, rebuild, parityGood, onDisk, keyOf. */
final class DisksTest {
    private static final int[] NO_DISK = {-1, 5, Integer.MAX_VALUE, Integer.MIN_VALUE};
    private static final int[] NO_STRIPE = {-1, 8, Integer.MAX_VALUE, Integer.MIN_VALUE};

    public static void main(String[] args) {
        numbersThatAreNot();
        placesOfBlocks();
        losesAndReplaces();
        keysOfNewDisks();
        greatestKeyOnAnyDisk();
        rebuilds();
        rebuildsWithAnyOtherMissing();
        rebuildLooksForNoOther();
        parity();
        Check.end();
    }

    private static void numbersThatAreNot() {
        Run x = new Run();
        String before = Probe.looks(x);
        for (int d : NO_DISK) {
            Check.no("lose", x.lose(d));
            Check.no("replace", x.replace(d));
            Check.same("rebuild", x.rebuild(d), Run.NONE);
            Check.same("keyOf", x.keyOf(d), Run.NONE);
            Check.noSuchElement("onDisk", () -> x.onDisk(d, 0));
        }
        for (int s : NO_STRIPE) {
            Check.same("parityGood", x.parityGood(s), Run.NONE);
            Check.noSuchElement("onDisk", () -> x.onDisk(0, s));
            Check.noSuchElement("onDisk", () -> x.onDisk(4, s));
        }
        Check.same("changed nothing", Probe.looks(x), before);
    }

    private static Run withAllBlocks() {
        Run x = new Run();
        for (int block = 0; block < 32; block++) {
            x.write(block / 16, block, 1000 + block * block);
        }
        Check.deliver(x);
        for (int c = 0; c < 2; c++) {
            x.flush(c);
            for (int i = 0; i < 4; i++) {
                Check.steps(x, c, 5, 4, 1, 4, 1, 4, 1, 4, 1, 4, 1, 4);
            }
            Check.steps(x, c, 6, 6, 6, 6, 7);
        }
        Check.deliver(x);
        return x;
    }

    private static void placesOfBlocks() {
        Run x = withAllBlocks();
        for (int block = 0; block < 32; block++) {
            Check.same("block " + block, Check.onDisk(x, block), 1000 + block * block);
        }
        for (int stripe = 0; stripe < 8; stripe++) {
            int xor = 0;
            for (int place = 0; place < 4; place++) {
                int block = 4 * stripe + place;
                xor ^= 1000 + block * block;
            }
            Check.same("parity " + stripe, x.onDisk(Check.parityDisk(stripe), stripe), xor);
            Check.same("good", x.parityGood(stripe), 1);
        }
    }

    private static void losesAndReplaces() {
        Run x = withAllBlocks();
        Check.no("replace of one that is there", x.replace(3));
        Check.yes("lose", x.lose(3));
        Check.no("lose again", x.lose(3));
        Check.same("key", x.keyOf(3), Run.NONE);
        Check.same("the others' keys", x.keyOf(2) + x.keyOf(4), 2);
        for (int stripe = 0; stripe < 8; stripe++) {
            int s = stripe;
            Check.noSuchElement("missing", () -> x.onDisk(3, s));
            Check.same("there", x.onDisk(0, s), withAllBlocks().onDisk(0, s));
            Check.same("parityGood", x.parityGood(s), Run.NONE);
        }
        Check.same("rebuild of a lost one", x.rebuild(3), Run.NONE);
        Check.yes("replace", x.replace(3));
        Check.no("replace again", x.replace(3));
        Check.same("key", x.keyOf(3), 1);
        for (int stripe = 0; stripe < 8; stripe++) {
            int s = stripe;
            Check.noSuchElement("not rebuilt", () -> x.onDisk(3, s));
            Check.same("parityGood", x.parityGood(s), Run.NONE);
        }
        for (int block = 0; block < 32; block++) {
            Check.same("read " + block, Check.readValue(x, block / 16, block), 1000 + block * block);
        }
    }

    private static void keysOfNewDisks() {
        Run x = new Run();
        x.takeOver(0);
        Check.steps(x, 0, 2, 2, 2);
        x.lose(4);
        x.replace(4);
        Check.same("the greatest", x.keyOf(4), 2);
        Check.same("as it was", x.keyOf(3), 1);
        x.lose(0);
        x.lose(1);
        x.lose(2);
        x.lose(4);
        x.replace(1);
        Check.same("of those that are there", x.keyOf(1), 1);
        for (int d = 0; d < 5; d++) {
            x.lose(d);
        }
        x.replace(2);
        Check.same("without any", x.keyOf(2), 0);
        x.replace(0);
        Check.same("the greatest is 0", x.keyOf(0), 0);
    }

    private static void greatestKeyOnAnyDisk() {
        for (int d = 0; d < 5; d++) {
            Run x = new Run();
            int other = (d + 1) % 5;
            x.takeOver(0);
            for (int i = 0; i <= d; i++) {
                Check.steps(x, 0, 2);
            }
            for (int i = 0; i < d; i++) {
                x.lose(i);
            }
            x.lose(other);
            x.replace(other);
            Check.same("the key of disk " + d, x.keyOf(other), 2);
            x.takeOver(1);
            Check.same("one more", x.state(1, 4), 3);
        }
    }

    private static void rebuildsWithAnyOtherMissing() {
        for (int d = 0; d < 5; d++) {
            for (int other = 0; other < 5; other++) {
                if (other != d) {
                    Run x = new Run();
                    x.lose(d);
                    x.replace(d);
                    x.lose(other);
                    Check.same("rebuild", x.rebuild(d), Run.NONE);
                    Check.same("parityGood", x.parityGood(0), Run.NONE);
                    Check.same("read", d < 4 ? x.ticket(x.read(0, d)) : 2, 2);
                    x.replace(other);
                    Check.same("rebuild", x.rebuild(d), Run.NONE);
                }
            }
        }
    }

    private static void rebuilds() {
        Run x = withAllBlocks();
        Check.same("nothing is missing", x.rebuild(1), Run.NONE);
        x.lose(1);
        x.replace(1);
        for (int stripe = 0; stripe < 8; stripe++) {
            Check.same("rebuild", x.rebuild(1), stripe);
            Check.same("block", x.onDisk(1, stripe), withAllBlocks().onDisk(1, stripe));
            Check.same("parityGood", x.parityGood(stripe), 1);
            Check.same("parityGood of the next", x.parityGood(stripe + 1), Run.NONE);
        }
        Check.same("nothing is missing", x.rebuild(1), Run.NONE);
        Check.same("all as it was", x.onDisk(1, 7), withAllBlocks().onDisk(1, 7));
    }

    private static void rebuildLooksForNoOther() {
        Run x = withAllBlocks();
        x.lose(1);
        x.replace(1);
        Check.same("rebuild", x.rebuild(1), 0);
        x.lose(2);
        Check.same("stripe 1 has two missing", x.rebuild(1), Run.NONE);
        x.replace(2);
        Check.same("not rebuilt either", x.rebuild(1), Run.NONE);
        Check.same("only stripe 0 can be", x.rebuild(2), 0);
        Check.same("stripe 1 can't", x.rebuild(2), Run.NONE);
        Check.noSuchElement("missing", () -> x.onDisk(2, 1));
        x.write(0, 5, 77);
        Check.makeAlone(x, 0);
        Check.steps(x, 0, 5, 4, 1, 4, 6);
        Check.same("written by a destaging", x.onDisk(1, 1), 77);
        Check.same("now stripe 1 can be", x.rebuild(2), 1);
        Check.same("by the parity as it is", x.parityGood(1), 1);
        Check.same("and stripe 2 can't", x.rebuild(1), Run.NONE);
    }

    private static void parity() {
        Run x = new Run();
        x.write(0, 0, 3);
        x.flush(0);
        Check.steps(x, 0, 5, 4);
        Check.same("good yet", x.parityGood(0), 1);
        Check.steps(x, 0, 1);
        Check.same("not good", x.parityGood(0), 0);
        Check.same("another stripe", x.parityGood(1), 1);
        Check.steps(x, 0, 4, 1);
        Check.same("good again", x.parityGood(0), 1);
        x.lose(4);
        Check.same("the parity is missing", x.parityGood(0), Run.NONE);
        x.replace(4);
        Check.same("not rebuilt", x.parityGood(0), Run.NONE);
        Check.same("rebuild", x.rebuild(4), 0);
        Check.same("good", x.parityGood(0), 1);
        Check.same("parity", x.onDisk(4, 0), 3);
    }
}
