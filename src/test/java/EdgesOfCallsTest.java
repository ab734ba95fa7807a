/**
 * "An object is used for at most 512 calls after it has been made; what later calls answer is free.": runs of just
 * 512 calls that ask for as much as can be asked of one object, up to the last call. Nothing is due from the 513th.
 */
final class EdgesOfCallsTest {
    private static final int CALLS = Run.MOST_CALLS;

    public static void main(String[] args) {
        Check.sentence("What it is: An object is used for at most 512 calls");
        beats();
        beatsOfOneThatIsAlone();
        keys();
        versions();
        lateWrites();
        rebuilds();
        moves();
        looks();
        Check.end();
    }

    private static void isUsedUp(Run x) {
        Check.same("calls left", x.room(), 0);
    }

    private static void beats() {
        Run x = new Run();
        for (int i = 0; i < CALLS / 4; i++) {
            Check.steps(x, 0, 8);
            Check.arrivals(x, 1, 5);
            Check.steps(x, 1, 8);
            Check.arrivals(x, 0, 5);
        }
        isUsedUp(x);
    }

    private static void beatsOfOneThatIsAlone() {
        Run x = new Run();
        Check.steps(x, 0, 8, 8, 8, 8);
        while (x.room() > 3) {
            Check.steps(x, 0, 9);
        }
        Check.same("messages", x.messages(1), 4);
        Check.yes("flush", x.flush(0));
        Check.steps(x, 0, 7);
        isUsedUp(x);
    }

    private static void keys() {
        Run x = new Run();
        for (int i = 0; i < 170; i++) {
            Check.yes("takeOver", x.takeOver(0));
            Check.yes("crash", x.crash(0));
            Check.yes("restart", x.restart(0));
        }
        Check.yes("takeOver", x.takeOver(0));
        Check.same("key", x.key(0), 172);
        isUsedUp(x);
    }

    /** 200 versions of one block, the last of which is on the disk with the last but one call. */
    private static void versions() {
        Run x = new Run();
        for (int i = 0; i < 200; i++) {
            Check.same("ticket", x.write(0, 15, 1000 + i), i);
            Check.arrivals(x, 1, 0);
        }
        Check.takeOverWhole(x, 1);
        Check.steps(x, 1, 5, 4, 1, 4, 1, 4, 6, 9);
        while (x.room() > 2) {
            Check.steps(x, 1, 9);
        }
        Check.same("the last version", Check.onDisk(x, 15), 1199);
        Check.same("no ticket more", x.write(0, 15, 1), Run.NONE);
        isUsedUp(x);
    }

    private static void lateWrites() {
        Run x = new Run();
        for (int i = 0; i < CALLS / 8; i++) {
            Check.same("ticket", x.write(0, i % 16, 50 + i), i);
            Check.yes("flush", x.flush(0));
            Check.steps(x, 0, 5, 4);
            Check.yes("crash", x.crash(0));
            Check.same("late", x.late(0), 1);
            Check.yes("restart", x.restart(0));
            Check.yes("pair", x.pair());
        }
        isUsedUp(x);
    }

    private static void rebuilds() {
        Run x = new Run();
        for (int i = 0; i < 51; i++) {
            Check.yes("lose", x.lose(i % 5));
            Check.yes("replace", x.replace(i % 5));
            for (int stripe = 0; stripe < 8; stripe++) {
                Check.same("rebuild", x.rebuild(i % 5), stripe);
            }
        }
        Check.same("rebuild", x.rebuild(0), Run.NONE);
        Check.same("parityGood", x.parityGood(7), 1);
        isUsedUp(x);
    }

    private static void moves() {
        Run x = new Run();
        while (x.room() > 2) {
            Check.yes("moveOwner", x.moveOwner(x.room() % 2));
        }
        Check.same("owns, after 255 moves of each volume", x.owns(0), 2);
        Check.same("owns, after 255 moves of each volume", x.owns(1), 1);
        isUsedUp(x);
    }

    private static void looks() {
        Run x = new Run();
        int t = x.write(0, 0, 8);
        while (x.room() > 1) {
            Check.same("ticket", x.ticket(t), 0);
        }
        Check.same("value", x.value(t), 8);
        isUsedUp(x);
    }
}
