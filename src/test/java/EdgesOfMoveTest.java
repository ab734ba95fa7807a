/** The edges that the document names for promise 13, moveOwner: each reason for false by itself, and what goes. */
final class EdgesOfMoveTest {
    private static final int[] NO_VOLUME = {Integer.MIN_VALUE, -1, 2, 3, 16, 32, 33, Integer.MAX_VALUE};

    public static void main(String[] args) {
        goesToTheOtherOne();
        notUnlessBothAreUp();
        notUnlessBothArePaired();
        notUnlessJustOneOwnsIt();
        notWithADirtyEntryInIt();
        notWithANoteInIt();
        notWhileDestagingInIt();
        notWithMessagesOnTheirWay();
        notOfNoVolume();
        refusedLeavesWhatWasThere();
        elseNothingHinders();
        cacheEntriesOfTheVolumeGo();
        mirrorEntriesOfTheVolumeGo();
        Check.end();
    }

    private static void refused(String what, Run x, int volume) {
        Check.refused(what, x, 0, y -> Run.bit(y.moveOwner(volume)));
    }

    private static void goesToTheOtherOne() {
        Check.sentence("Promise 13: A volume goes from its owner to the other one");
        int zeros = 1;
        Run x = new Run();
        for (int volume : new int[] {0, 0, 1, 1, 0, 1, 0, 1}) {
            Check.yes("moveOwner", x.moveOwner(volume));
            zeros ^= 1 << volume;
            Check.same("0 owns", x.owns(0), zeros);
            Check.same("1 owns", x.owns(1), 3 & ~zeros);
        }
    }

    private static void notUnlessBothAreUp() {
        Check.sentence("Promise 13: false unless both are up");
        for (int c = 0; c < 2; c++) {
            Run x = new Run();
            x.crash(c);
            refused("the owner is down", x, c);
            refused("the other one is down", x, 1 - c);
            x.restart(c);
            refused("up again, but alone", x, 1 - c);
            Check.yes("pair", x.pair());
            Check.yes("paired again", x.moveOwner(0));
            Check.yes("paired again", x.moveOwner(1));
        }
    }

    private static void notUnlessBothArePaired() {
        Check.sentence("Promise 13: false unless both are up and paired");
        for (int c = 0; c < 2; c++) {
            Run x = new Run();
            Check.steps(x, c, 8, 8, 8);
            Check.deliver(x);
            Check.yes("paired with three beats missed", x.moveOwner(0));
            Check.yes("back", x.moveOwner(0));
            x.cut(true);
            Check.steps(x, c, 8);
            x.cut(false);
            Check.same("no messages", x.messages(0) + x.messages(1), 0);
            refused("alone with four", x, 0);
            refused("alone with four", x, 1);
            Run both = new Run();
            Check.makeAlone(both, 0);
            Check.makeAlone(both, 1);
            refused("both are alone", both, c);
            Run taking = new Run();
            taking.takeOver(c);
            refused("taking over", taking, 0);
            refused("taking over", taking, 1);
        }
    }

    /** Two that are paired have just one owner of each volume, so these are also alone. */
    private static void notUnlessJustOneOwnsIt() {
        Check.sentence("Promise 13: just one owns it");
        for (int c = 0; c < 2; c++) {
            Run both = new Run();
            Check.takeOverWhole(both, c);
            Check.same("both own it", both.owns(0) & both.owns(1), 2 >> c);
            refused("both own it", both, 1 - c);
            Run none = new Run();
            none.crash(c);
            none.restart(c);
            Check.same("none owns it", (none.owns(0) | none.owns(1)) & 1 << c, 0);
            refused("none owns it", none, c);
        }
    }

    private static void notWithADirtyEntryInIt() {
        Check.sentence("Promise 13: that one has no dirty entry ... in it");
        for (int block = 0; block < 32; block++) {
            int volume = block / 16;
            Run x = new Run();
            Check.same("read", Check.readValue(x, volume, block), 0);
            Check.yes("an entry that is not dirty", x.moveOwner(volume));
            Check.yes("back", x.moveOwner(volume));
            Check.mirrored(x, volume, block, 5);
            refused("dirty block " + block, x, volume);
            Check.yes("the other volume", x.moveOwner(1 - volume));
            Check.yes("back, though this one is dirty", x.moveOwner(1 - volume));
            Check.same("dirty", x.dirty(volume), 1);
            Check.same("mirror", x.mirrored(1 - volume), 1);
        }
    }

    private static void notWithANoteInIt() {
        Check.sentence("Promise 13: that one has no ... note ... in it");
        for (int stripe = 0; stripe < 8; stripe++) {
            int volume = stripe / 4;
            Run x = new Run();
            Check.mirrored(x, volume, 4 * stripe + 3, 5);
            x.flush(volume);
            Check.steps(x, volume, 5, 4, 1, 4, 1, 4);
            Check.deliver(x);
            Check.same("dirty, destages", x.dirty(volume) + x.destages(volume), -1);
            refused("noted stripe " + stripe, x, volume);
            Check.yes("the other volume", x.moveOwner(1 - volume));
            Check.yes("back", x.moveOwner(1 - volume));
            Check.steps(x, volume, 6);
            Check.deliver(x);
            Check.yes("no note", x.moveOwner(volume));
        }
    }

    private static void notWhileDestagingInIt() {
        Check.sentence("Promise 13: that one has no ... destaging in it");
        for (int stripe = 0; stripe < 8; stripe++) {
            int volume = stripe / 4;
            Run x = new Run();
            Check.mirrored(x, volume, 4 * stripe, 5);
            x.flush(volume);
            for (int step : new int[] {5, 4, 1, 4, 1}) {
                Check.steps(x, volume, step);
                Check.deliver(x);
                Check.same("destages", x.destages(volume), stripe);
                refused("destaging stripe " + stripe, x, volume);
            }
            Check.yes("the other volume", x.moveOwner(1 - volume));
        }
    }

    private static void notWithMessagesOnTheirWay() {
        Check.sentence("Promise 13: and no messages are on their way");
        for (int c = 0; c < 2; c++) {
            for (int volume = 0; volume < 2; volume++) {
                Run x = new Run();
                Check.steps(x, c, 8);
                refused("one to " + (1 - c), x, volume);
                Check.arrivals(x, 1 - c, 5);
                Check.yes("arrived", x.moveOwner(volume));
            }
        }
        for (int count = 1; count <= 3; count++) {
            Run x = new Run();
            for (int i = 0; i < count; i++) {
                Check.steps(x, 0, 8);
                Check.steps(x, 1, 8);
            }
            refused("as many to each, volume 0", x, 0);
            refused("as many to each, volume 1", x, 1);
            Check.deliver(x);
            Check.yes("arrived", x.moveOwner(0));
        }
    }

    private static void notOfNoVolume() {
        Check.sentence("Promise 13 and Terms: Calls with numbers that are not as said are refused");
        for (int volume : NO_VOLUME) {
            refused("volume " + volume, Check.withStripe(0), volume);
        }
    }

    /** Each reason again where there is much that could be gone behind a call that is refused. */
    private static void refusedLeavesWhatWasThere() {
        Check.sentence("Promise 13: false unless ... are refused, changing nothing");
        for (int volume = 0; volume < 2; volume++) {
            int owner = volume;
            for (int wrong : NO_VOLUME) {
                refused("volume " + wrong, Check.withRemains(), wrong);
            }
            for (int c = 0; c < 2; c++) {
                Run down = Check.withRemains();
                down.crash(c);
                refused("down", down, volume);
                Run alone = Check.withRemains();
                alone.takeOver(c);
                refused("alone", alone, volume);
                Run message = Check.withRemains();
                Check.steps(message, c, 8);
                refused("a message", message, volume);
            }
            Run dirty = Check.withRemains();
            Check.mirrored(dirty, owner, 16 * volume + 1, 5);
            refused("dirty", dirty, volume);
            dirty.flush(owner);
            Check.steps(dirty, owner, 5, 4);
            Check.deliver(dirty);
            refused("destaging", dirty, volume);
            Check.steps(dirty, owner, 1, 4, 1, 4);
            Check.deliver(dirty);
            refused("noted", dirty, volume);
        }
    }

    private static void elseNothingHinders() {
        Check.sentence("Promise 13: false unless ... [nothing else]");
        for (int volume = 0; volume < 2; volume++) {
            Run cut = new Run();
            cut.cut(true);
            Check.yes("cut", cut.moveOwner(volume));
            Run told = new Run();
            told.flush(volume);
            Check.yes("told to flush", told.moveOwner(volume));
            Run disks = new Run();
            Check.loseAll(disks, 31);
            Check.yes("without any disk", disks.moveOwner(volume));
            Run other = new Run();
            Check.mirrored(other, 1 - volume, 16 * (1 - volume), 5);
            other.flush(1 - volume);
            Check.steps(other, 1 - volume, 5, 4);
            Check.deliver(other);
            Check.yes("the other one destages in its own volume", other.moveOwner(volume));
            Run open = new Run();
            open.cut(true);
            int t = open.write(volume, 16 * volume, 5);
            open.cut(false);
            open.flush(volume);
            Check.steps(open, volume, 5, 4, 1, 4, 1, 4, 6);
            Check.deliver(open);
            Check.yes("a ticket is open", open.moveOwner(volume));
            Check.same("open still", open.ticket(t), 0);
        }
    }

    /** Controller 1 - from has moved its volume to controller from, which has an entry of each block. */
    private static void cacheEntriesOfTheVolumeGo() {
        Check.sentence("Promise 13: Its cache entries of the volume go");
        for (int from = 0; from < 2; from++) {
            for (int volume = 0; volume < 2; volume++) {
                Run x = new Run();
                Check.yes("moveOwner", x.moveOwner(1 - from));
                for (int block = 0; block < 32; block++) {
                    Check.same("read", Check.readValue(x, from, block), 0);
                }
                Check.yes("moveOwner", x.moveOwner(volume));
                Check.yes("back", x.moveOwner(volume));
                Check.loseAll(x, 31);
                for (int block = 0; block < 32; block++) {
                    int due = block / 16 == volume ? 2 : 1;
                    Check.same("volume " + volume + " moved, block " + block, x.ticket(x.read(from, block)), due);
                }
            }
        }
    }

    /** The partner has mirror entries of both volumes, as each FORGET was lost. */
    private static void mirrorEntriesOfTheVolumeGo() {
        Check.sentence("Promise 13: and the other one's mirror entries");
        for (int from = 0; from < 2; from++) {
            for (int volume = 0; volume < 2; volume++) {
                Run x = new Run();
                Check.yes("moveOwner", x.moveOwner(1 - from));
                for (int block : new int[] {0, 15, 16, 31}) {
                    Check.mirrored(x, from, block, 40 + block);
                }
                x.cut(true);
                x.flush(from);
                for (int i = 0; i < 4; i++) {
                    Check.steps(x, from, 5, 4, 1, 4, 1, 4);
                }
                Check.steps(x, from, 6, 6, 6, 6, 7);
                x.cut(false);
                Check.same("mirror", x.mirrored(1 - from), 4);
                Check.yes("moveOwner", x.moveOwner(volume));
                Check.same("those of the volume are gone", x.mirrored(1 - from), 2);
                Check.takeOverWhole(x, 1 - from);
                Check.same("those of the other one are dirty now", x.dirty(1 - from), 2);
                Check.steps(x, 1 - from, 5);
                Check.same("first of them", x.destages(1 - from), volume == 0 ? 4 : 0);
            }
        }
    }
}
