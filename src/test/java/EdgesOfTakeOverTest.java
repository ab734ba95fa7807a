/** The edges that the document names for promise 12, takeOver. */
final class EdgesOfTakeOverTest {
    private static final int[] NO_CONTROLLER = {Integer.MIN_VALUE, -1, 2, 3, 32, Integer.MAX_VALUE};

    public static void main(String[] args) {
        itIsAlone();
        oneMoreThanItsOwn();
        oneMoreThanTheDisks();
        oneMoreThanThoseThatAreThere();
        notWhileDown();
        notWhileItTakesOver();
        notWithoutController();
        Check.end();
    }

    private static void itIsAlone() {
        Check.sentence("Promise 12: One begins to take over: it is alone");
        for (int c = 0; c < 2; c++) {
            Run x = new Run();
            Check.yes("takeOver", x.takeOver(c));
            int[] due = {0, 0, 0, 0, 2, 1, 0, 1, 0, Run.NONE, 1 << c, 0, 0, 0};
            int[] partner = {0, 0, 0, 0, 1, 1, 1, 0, 0, Run.NONE, 2 >> c, 0, 0, 0};
            for (int what = 0; what < due.length; what++) {
                Check.same("state " + what, x.state(c, what), due[what]);
                Check.same("its partner's state " + what, x.state(1 - c, what), partner[what]);
            }
            for (int d = 0; d < 5; d++) {
                Check.same("no key of a disk yet", x.keyOf(d), 1);
            }
            Run alone = new Run();
            Check.makeAlone(alone, c);
            Check.yes("also if it was alone", alone.takeOver(c));
            Run cut = new Run();
            cut.cut(true);
            Check.yes("also while the link is cut", cut.takeOver(c));
        }
    }

    private static void oneMoreThanItsOwn() {
        Check.sentence("Promise 12: its key one more than the greatest of its own");
        Run x = new Run();
        for (int key = 2; key <= 6; key++) {
            Check.yes("takeOver", x.takeOver(0));
            Check.same("key", x.key(0), key);
            x.crash(0);
            x.restart(0);
            Check.same("the other one's", x.key(1), 1);
        }
        Check.yes("takeOver", x.takeOver(1));
        Check.same("the other one's own key does not count", x.key(1), 2);
    }

    /** One disk alone has the greatest key. */
    private static void oneMoreThanTheDisks() {
        Check.sentence("Promise 12: and those of all disks that are there");
        for (int disk = 0; disk < 5; disk++) {
            Run x = new Run();
            Check.yes("takeOver", x.takeOver(0));
            Check.steps(x, 0, 2, 2, 2, 2, 2, 2);
            Check.loseAll(x, (1 << disk) - 1);
            for (int d = disk + 1; d < 5; d++) {
                x.lose(d);
            }
            Check.yes("takeOver", x.takeOver(1));
            Check.same("disk " + disk + " alone is there", x.key(1), 3);
        }
        for (int taken = 0; taken <= 5; taken++) {
            Run x = new Run();
            x.takeOver(0);
            for (int i = 0; i < taken; i++) {
                Check.steps(x, 0, 2);
            }
            Check.yes("takeOver", x.takeOver(1));
            Check.same(taken + " disks have key 2", x.key(1), taken == 0 ? 2 : 3);
        }
    }

    private static void oneMoreThanThoseThatAreThere() {
        Check.sentence("Promise 12: of all disks that are there");
        for (int taken = 1; taken <= 4; taken++) {
            Run x = new Run();
            x.takeOver(0);
            for (int i = 0; i < taken; i++) {
                Check.steps(x, 0, 2);
            }
            Check.loseAll(x, (1 << taken) - 1);
            Check.yes("takeOver", x.takeOver(1));
            Check.same("those with key 2 are lost", x.key(1), 2);
        }
        Run none = new Run();
        Check.loseAll(none, 31);
        Check.yes("takeOver", none.takeOver(0));
        Check.same("without any disk", none.key(0), 2);
        Run zeros = new Run();
        Check.loseAll(zeros, 31);
        for (int d = 0; d < 5; d++) {
            zeros.replace(d);
        }
        Check.yes("takeOver", zeros.takeOver(0));
        Check.same("with disks of key 0", zeros.key(0), 2);
    }

    private static void notWhileDown() {
        Check.sentence("Promise 12: false when it is down");
        for (int c = 0; c < 2; c++) {
            int controller = c;
            Run x = new Run();
            Check.mirrored(x, 1 - c, 16 * (1 - c), 5);
            x.crash(c);
            Check.refused("down", x, 0, y -> Run.bit(y.takeOver(controller)));
            x.restart(c);
            Check.yes("up again", x.takeOver(c));
        }
    }

    private static void notWhileItTakesOver() {
        Check.sentence("Promise 12: or takes over already");
        for (int c = 0; c < 2; c++) {
            int controller = c;
            for (int taken = 0; taken <= 5; taken++) {
                Run x = new Run();
                Check.mirrored(x, 1 - c, 16 * (1 - c), 5);
                Check.yes("takeOver", x.takeOver(c));
                for (int i = 0; i < taken; i++) {
                    Check.steps(x, c, 2);
                }
                Check.refused(taken + " disks taken", x, 0, y -> Run.bit(y.takeOver(controller)));
                Check.yes("the other one may", x.takeOver(1 - c));
            }
            Run over = new Run();
            Check.takeOverWhole(over, c);
            Check.yes("takes over no more", over.takeOver(c));
            Check.same("key", over.key(c), 3);
        }
    }

    private static void notWithoutController() {
        Check.sentence("Promise 12 and Terms: Calls with numbers that are not as said are refused");
        Run x = new Run();
        Check.mirrored(x, 0, 0, 5);
        for (int n : NO_CONTROLLER) {
            Check.refused("controller " + n, x, 0, y -> Run.bit(y.takeOver(n)));
        }
    }
}
