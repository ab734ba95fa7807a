import java.util.NoSuchElementException;
import java.util.function.IntSupplier;

/** What the tests share: checks that print what is not as due, and moves that many runs begin with. */
final class Check {
    private static int wrong = 0;

    private Check() {
    }

    static void same(String what, int got, int due) {
        if (got != due) {
            wrong++;
            System.out.println(what + ": " + got + ", due is " + due);
        }
    }

    static void same(String what, String got, String due) {
        if (!got.equals(due)) {
            wrong++;
            System.out.println(what + ":\n  " + got + "\n  due is\n  " + due);
        }
    }

    static void yes(String what, boolean got) {
        same(what, got ? 1 : 0, 1);
    }

    static void no(String what, boolean got) {
        same(what, got ? 1 : 0, 0);
    }

    static void noSuchElement(String what, IntSupplier call) {
        String thrown = "nothing";
        try {
            call.getAsInt();
        } catch (NoSuchElementException e) {
            thrown = "NoSuchElementException";
        } catch (RuntimeException e) {
            thrown = e.getClass().getName();
        }
        same(what + " throws", thrown, "NoSuchElementException");
    }

    /** Steps of one controller, each with the number that is due. */
    static void steps(TwinArray x, int controller, int... due) {
        for (int i = 0; i < due.length; i++) {
            same(where() + " step(" + controller + ") no. " + i, x.step(controller), due[i]);
        }
    }

    /** Arrivals at one controller, each with the number that is due. */
    static void arrivals(TwinArray x, int controller, int... due) {
        for (int i = 0; i < due.length; i++) {
            same(where() + " arrive(" + controller + ") no. " + i, x.arrive(controller), due[i]);
        }
    }

    /** Lets all messages arrive, answers to them too. */
    static void deliver(TwinArray x) {
        for (int i = 0; i < 200; i++) {
            int got = x.arrive(0);
            if (x.arrive(1) == TwinArray.NONE && got == TwinArray.NONE) {
                return;
            }
        }
    }

    /** Lets all messages to one controller arrive that are on their way now. */
    static void deliverTo(TwinArray x, int controller) {
        int onTheirWay = x.state(controller, 2);
        for (int i = 0; i < onTheirWay; i++) {
            x.arrive(controller);
        }
    }

    /** Controller 1, which has a write under way, takes over: the write lands before. */
    static void takesOverBehindItsWrite(TwinArray x) {
        yes(where() + " takeOver", x.takeOver(1));
        steps(x, 1, 1, 2, 2, 2, 2, 2, 2);
    }

    /** A write that the partner has in its mirror and that is done. */
    static int mirrored(TwinArray x, int controller, int block, int value) {
        int t = x.write(controller, block, value);
        deliver(x);
        same(where() + " a mirrored write's ticket", x.ticket(t), 1);
        return t;
    }

    /** Four beats without an answer. */
    static void makeAlone(TwinArray x, int controller) {
        x.cut(true);
        steps(x, controller, 8, 8, 8, 8);
        x.cut(false);
        same(where() + " paired", x.state(controller, 6), 0);
    }

    /** Takes over with all five disks there and nothing under way. */
    static void takeOverWhole(TwinArray x, int controller) {
        yes(where() + " takeOver", x.takeOver(controller));
        steps(x, controller, 2, 2, 2, 2, 2, 2);
    }

    static int readValue(TwinArray x, int controller, int block) {
        int t = x.read(controller, block);
        same(where() + " read's ticket", x.ticket(t), 1);
        return x.value(t);
    }

    static int disk(int block) {
        int parity = parityDisk(block / 4);
        return block % 4 < parity ? block % 4 : block % 4 + 1;
    }

    static int parityDisk(int stripe) {
        return new int[] {4, 3, 2, 1, 0, 4, 3, 2}[stripe];
    }

    static int onDisk(TwinArray x, int block) {
        return x.onDisk(disk(block), block / 4);
    }

    /** All that can be seen of an object without changing it. */
    static String seen(TwinArray x) {
        StringBuilder s = new StringBuilder();
        for (int c = 0; c < 2; c++) {
            s.append(" c").append(c).append(':');
            for (int what = 0; what < 14; what++) {
                s.append(' ').append(x.state(c, what));
            }
        }
        for (int d = 0; d < 5; d++) {
            s.append(" d").append(d).append(" key ").append(x.keyOf(d)).append(':');
            for (int stripe = 0; stripe < 8; stripe++) {
                s.append(' ').append(blockOrGap(x, d, stripe));
            }
        }
        s.append(" lates ").append(x.lates()).append(" tickets");
        for (int t = 0; isTicket(x, t); t++) {
            s.append(' ').append(x.ticket(t)).append('/').append(x.value(t));
        }
        return s.toString();
    }

    static boolean isTicket(TwinArray x, int t) {
        try {
            x.ticket(t);
            return true;
        } catch (NoSuchElementException e) {
            return false;
        }
    }

    private static String blockOrGap(TwinArray x, int disk, int stripe) {
        try {
            return String.valueOf(x.onDisk(disk, stripe));
        } catch (NoSuchElementException e) {
            return "-";
        }
    }

    /** The test's own line, so that a wrong answer behind a shared move can be found. */
    private static String where() {
        for (StackTraceElement e : new Throwable().getStackTrace()) {
            if (!e.getClassName().equals("Check")) {
                return e.getFileName() + ":" + e.getLineNumber();
            }
        }
        return "";
    }

    static void end() {
        if (wrong != 0) {
            System.out.println(wrong + " answers are not as due");
            System.exit(1);
        }
    }
}
