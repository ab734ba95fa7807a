import java.util.function.IntSupplier;

/** What the tests share: checks that print what is not as due, and moves that many runs begin with. */
final class Check {
    private static int wrong = 0;
    private static String sentence = "";

    private Check() {
    }

    /** The sentence of the document that the checks behind this are for; it is printed with what is not as due. */
    static void sentence(String words) {
        sentence = "[" + words + "] ";
    }

    static void same(String what, int got, int due) {
        if (got != due) {
            wrong++;
            System.out.println(sentence + where() + " " + what + ": " + got + ", due is " + due);
        }
    }

    static void same(String what, String got, String due) {
        if (!got.equals(due)) {
            wrong++;
            System.out.println(sentence + where() + " " + what + ":\n  " + got + "\n  due is\n  " + due);
        }
    }

    static void yes(String what, boolean got) {
        same(what, got ? 1 : 0, 1);
    }

    static void no(String what, boolean got) {
        same(what, got ? 1 : 0, 0);
    }

    static void noSuchElement(String what, IntSupplier call) {
        same(what + " throws", Run.answer(null, x -> call.getAsInt()), Run.NO_SUCH_ELEMENT);
    }

    /** Calls that are refused with this answer, and after which all is as it was. */
    static void refused(String what, Run x, int due, Run.Call... calls) {
        refusedAs(what, x, String.valueOf(due), calls);
    }

    /** Calls that throw NoSuchElementException, and after which all is as it was. */
    static void refusedByThrow(String what, Run x, Run.Call... calls) {
        refusedAs(what, x, Run.NO_SUCH_ELEMENT, calls);
    }

    private static void refusedAs(String what, Run x, String due, Run.Call... calls) {
        String before = Probe.all(x, x.room() - calls.length);
        for (int i = 0; i < calls.length; i++) {
            same(what + ", no. " + i, x.attempt(calls[i]), due);
        }
        same(what + " changes nothing", Probe.all(x, x.room()), before);
    }

    /** A write or read that is refused but has a ticket, and after which all else is as it was. */
    static int refusedWithTicket(String what, Run x, int value, Run.Call call) {
        String before = Probe.looksBesideTickets(x);
        int tickets = Probe.tickets(x);
        int t = x.make(call);
        same(what + ", its ticket", t, tickets);
        same(what + ", the ticket", x.ticket(t), 2);
        same(what + ", the ticket's value", x.value(t), value);
        same(what + " changes nothing else", Probe.looksBesideTickets(x), before);
        return t;
    }

    /** Steps of one controller, each with the number that is due. */
    static void steps(Run x, int controller, int... due) {
        for (int i = 0; i < due.length; i++) {
            same("step(" + controller + ") no. " + i, x.step(controller), due[i]);
        }
    }

    /** Arrivals at one controller, each with the number that is due. */
    static void arrivals(Run x, int controller, int... due) {
        for (int i = 0; i < due.length; i++) {
            same("arrive(" + controller + ") no. " + i, x.arrive(controller), due[i]);
        }
    }

    /** Lets all messages arrive, answers to them too. */
    static void deliver(Run x) {
        for (int i = 0; i < 200; i++) {
            int got = x.arrive(0);
            if (x.arrive(1) == Run.NONE && got == Run.NONE) {
                return;
            }
        }
    }

    /** Lets all messages to one controller arrive that are on their way now. */
    static void deliverTo(Run x, int controller) {
        int onTheirWay = x.state(controller, 2);
        for (int i = 0; i < onTheirWay; i++) {
            x.arrive(controller);
        }
    }

    /** Controller 1, which has a write under way, takes over: the write lands before. */
    static void takesOverBehindItsWrite(Run x) {
        yes("takeOver", x.takeOver(1));
        steps(x, 1, 1, 2, 2, 2, 2, 2, 2);
    }

    /** A write that the partner has in its mirror and that is done. */
    static int mirrored(Run x, int controller, int block, int value) {
        int t = x.write(controller, block, value);
        deliver(x);
        same("a mirrored write's ticket", x.ticket(t), 1);
        return t;
    }

    /** Four beats without an answer. */
    static void makeAlone(Run x, int controller) {
        x.cut(true);
        steps(x, controller, 8, 8, 8, 8);
        x.cut(false);
        same("paired", x.state(controller, 6), 0);
    }

    /** Takes over with all five disks there and nothing under way. */
    static void takeOverWhole(Run x, int controller) {
        yes("takeOver", x.takeOver(controller));
        steps(x, controller, 2, 2, 2, 2, 2, 2);
    }

    /** Loses each disk whose bit is set. */
    static void loseAll(Run x, int disks) {
        for (int d = 0; d < 5; d++) {
            if ((disks >> d & 1) == 1) {
                yes("lose", x.lose(d));
            }
        }
    }

    /** What the tests write to a block so that no two blocks, and no exclusive or of some, are the same. */
    static int someValue(int block) {
        return 1 + (1 << 16) * (block + 1) + block * block;
    }

    /** A new object with values in all four blocks of a stripe, on the disks alone; both are paired as at first. */
    static Run withStripe(int stripe) {
        Run x = new Run();
        int owner = stripe / 4;
        for (int i = 0; i < 4; i++) {
            x.write(owner, 4 * stripe + i, someValue(4 * stripe + i));
        }
        x.flush(owner);
        steps(x, owner, 5, 4, 1, 4, 1, 4, 1, 4, 1, 4, 1, 4, 6, 7);
        yes("pair", x.pair());
        return x;
    }

    /**
     * A new object, as at first but that each controller has missed a beat, has entries of its own and of its partner's
     * blocks, and a remark; nothing is dirty or noted, and no message is on its way.
     */
    static Run withRemains() {
        Run x = new Run();
        x.write(0, 15, someValue(15));
        x.write(1, 31, someValue(31));
        deliver(x);
        for (int c = 0; c < 2; c++) {
            same("read", readValue(x, c, 16 * c), 0);
            x.flush(c);
            steps(x, c, 5);
            arrivals(x, 1 - c, 3);
            x.cut(true);
            steps(x, c, 4, 1, 4, 1, 4, 6, 7, 8);
            x.cut(false);
        }
        for (int c = 0; c < 2; c++) {
            same("mirror entries, missed beats", x.mirrored(c) * 10 + x.missedBeats(c), 11);
            same("remarks", x.remarks(c), c == 0 ? 128 : 8);
            same("messages, dirty entries, notes", x.messages(c) + x.dirty(c) + x.notes(c), 0);
        }
        return x;
    }

    static int readValue(Run x, int controller, int block) {
        int t = x.read(controller, block);
        same("read's ticket", x.ticket(t), 1);
        return x.value(t);
    }

    static int disk(int block) {
        int parity = parityDisk(block / 4);
        return block % 4 < parity ? block % 4 : block % 4 + 1;
    }

    static int parityDisk(int stripe) {
        return new int[] {4, 3, 2, 1, 0, 4, 3, 2}[stripe];
    }

    static int onDisk(Run x, int block) {
        return x.onDisk(disk(block), block / 4);
    }

    /** The test's own line, so that a wrong answer in a shared move can be found. */
    private static String where() {
        for (StackTraceElement e : new Throwable().getStackTrace()) {
            if (e.getClassName().endsWith("Test")) {
                return e.getFileName() + ":" + e.getLineNumber();
            }
        }
        return "";
    }

    static void end() {
        if (wrong != 0) {
            System.out.println(wrong + " answers are not as due");
            System.exit(1);
        }
    }
}
