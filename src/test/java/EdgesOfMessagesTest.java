/** The edges that the document names for messages and the link: Terms, promises 7 and 8. */
final class EdgesOfMessagesTest {
    private static final int MIRROR = 0;
    private static final int GOT = 1;
    private static final int FORGET = 2;
    private static final int NOTE = 3;
    private static final int CLOSE = 4;
    private static final int BEAT = 5;
    private static final int[] NO_CONTROLLER = {Integer.MIN_VALUE, -1, 2, 3, 32, Integer.MAX_VALUE};

    public static void main(String[] args) {
        oneBehindTheOther();
        fortyMirrors();
        fortiethAndFortyFirstOfEachKind();
        fourAtOnceWithRoomForTwo();
        fortyGoRoundAndRound();
        fortyToOneThatIsDown();
        lostWhileCut();
        thoseOnTheirWayWait();
        downTakesNoNotice();
        aloneTakesNoNotice();
        mirrorIfThereIsNone();
        mirrorIfThereIsNoneAnyMore();
        mirrorOverALowerVersion();
        gotIfItIsOpen();
        forgetIfItIsOfThisVersion();
        noteAndClose();
        beatAfterThree();
        noneWhenThereIsNone();
        noneWhileCut();
        noneOfNoController();
        cutTwice();
        Check.end();
    }

    /** Controller 0 is just about to send a message of this kind to controller 1, to which so many are on their way. */
    private static Run aboutToSend(int kind, int before) {
        switch (kind) {
            case MIRROR: return withMirrors(new Run(), before);
            case GOT: return aboutToSendGot(before);
            case FORGET: return aboutToSendForget(before);
            case NOTE: return aboutToSendNote(before);
            case CLOSE: return aboutToSendClose(before);
            default: return withMirrors(new Run(), before);
        }
    }

    private static void send(Run x, int kind) {
        switch (kind) {
            case MIRROR: x.write(0, 14, 3); break;
            case GOT: Check.arrivals(x, 0, MIRROR); break;
            case FORGET: Check.steps(x, 0, 4); break;
            case NOTE: Check.steps(x, 0, 5); break;
            case CLOSE: Check.steps(x, 0, 6); break;
            default: Check.steps(x, 0, 8); break;
        }
    }

    private static Run withMirrors(Run x, int messages) {
        for (int i = x.messages(1); i < messages; i++) {
            x.write(0, 15, i);
        }
        Check.same("messages", x.messages(1), messages);
        return x;
    }

    private static Run aboutToSendGot(int before) {
        Run x = new Run();
        x.write(1, 16, 8);
        return withMirrors(x, before);
    }

    private static Run aboutToSendNote(int before) {
        Run x = withMirrors(new Run(), before);
        x.flush(0);
        return x;
    }

    private static Run aboutToSendForget(int before) {
        Run x = new Run();
        x.write(0, 0, 9);
        x.flush(0);
        Check.steps(x, 0, 5, 4, 1, 4, 1);
        return withMirrors(x, before);
    }

    /** All that is dirty is destaged before CLOSE goes, so NOTE and FORGET are behind the others. */
    private static Run aboutToSendClose(int before) {
        Run x = withMirrors(new Run(), before - 2);
        x.flush(0);
        Check.steps(x, 0, 5, 4, 1, 4, 1, 4);
        Check.same("messages", x.messages(1), before);
        return x;
    }

    private static void oneBehindTheOther() {
        Check.sentence("Terms: MESSAGES come to a controller one behind the other");
        Run x = new Run();
        x.write(0, 0, 9);
        x.flush(0);
        Check.steps(x, 0, 5, 4, 1, 4, 1, 4, 6, 7, 8);
        x.write(0, 1, 9);
        Check.arrivals(x, 1, MIRROR, NOTE, FORGET, CLOSE, BEAT, MIRROR, Run.NONE);
        Check.arrivals(x, 0, GOT, GOT, Run.NONE);
    }

    private static void fortyMirrors() {
        Check.sentence("Terms: at most 40 are on their way; one more is lost");
        Run x = new Run();
        for (int i = 0; i < 40; i++) {
            Check.same("messages", x.messages(1), i);
            x.write(0, i % 16, 100 + i);
        }
        Check.same("the fortieth", x.messages(1), 40);
        x.write(0, 8, 140);
        Check.same("one more", x.messages(1), 40);
        for (int i = 0; i < 40; i++) {
            Check.arrivals(x, 1, MIRROR);
        }
        Check.arrivals(x, 1, Run.NONE);
        for (int i = 0; i < 40; i++) {
            Check.arrivals(x, 0, GOT);
        }
        Check.arrivals(x, 0, Run.NONE);
        Check.same("the fortieth's ticket", x.ticket(39), 1);
        Check.same("the lost one's ticket", x.ticket(40), 0);
        Check.takeOverWhole(x, 1);
        Check.same("the fortieth", Check.readValue(x, 1, 7), 139);
        Check.same("not the lost one", Check.readValue(x, 1, 8), 124);
    }

    /** With 39 on their way one of each kind is the fortieth; with 40 it is lost. */
    private static void fortiethAndFortyFirstOfEachKind() {
        Check.sentence("Terms: at most 40 are on their way; one more is lost");
        for (int kind = MIRROR; kind <= BEAT; kind++) {
            Run last = aboutToSend(kind, 39);
            send(last, kind);
            Check.same("messages with the fortieth, of kind " + kind, last.messages(1), 40);
            for (int i = 0; i < 39; i++) {
                last.arrive(1);
            }
            Check.arrivals(last, 1, kind, Run.NONE);
            Run lost = aboutToSend(kind, 40);
            String waiting = waiting(lost, 40);
            send(lost, kind);
            Check.same("messages, one more of kind " + kind, lost.messages(1), 40);
            Check.same("those that were on their way", waiting(lost, 40), waiting);
        }
        whatAFortyFirstWouldHaveDone();
    }

    /** The kinds of the messages to controller 1, by another object. */
    private static String waiting(Run x, int count) {
        TwinArray y = x.again();
        StringBuilder kinds = new StringBuilder();
        for (int i = 0; i <= count; i++) {
            kinds.append(' ').append(y.arrive(1));
        }
        return kinds.toString();
    }

    private static void whatAFortyFirstWouldHaveDone() {
        Run got = aboutToSend(GOT, 40);
        send(got, GOT);
        Check.same("the mirror's entry is there", got.mirrored(0), 1);
        Check.deliverTo(got, 1);
        Check.same("the ticket is open still", got.ticket(0), 0);
        Run note = aboutToSend(NOTE, 40);
        send(note, NOTE);
        Check.same("the note is there", note.notes(0), 8);
        Check.deliverTo(note, 1);
        Check.same("no remark", note.remarks(1), 0);
        Run close = aboutToSend(CLOSE, 40);
        send(close, CLOSE);
        Check.same("the note is gone", close.notes(0), 0);
        Check.deliverTo(close, 1);
        Check.same("the remark stays", close.remarks(1), 8);
        Run forget = aboutToSend(FORGET, 40);
        send(forget, FORGET);
        Check.deliverTo(forget, 1);
        Check.same("both mirror entries stay", forget.mirrored(1), 2);
        Run beat = aboutToSend(BEAT, 40);
        send(beat, BEAT);
        Check.same("a lost beat is missed, too", beat.missedBeats(0), 1);
    }

    /** FORGET goes for all four blocks of a stripe in one step. */
    private static void fourAtOnceWithRoomForTwo() {
        Check.sentence("Terms: at most 40 are on their way; one more is lost");
        for (int room = 0; room <= 4; room++) {
            Run x = new Run();
            for (int block = 0; block < 4; block++) {
                x.write(0, block, 9);
            }
            Check.deliverTo(x, 1);
            x.flush(0);
            Check.steps(x, 0, 5, 4, 1, 4, 1, 4, 1, 4, 1, 4, 1);
            withMirrors(x, 40 - room);
            Check.steps(x, 0, 4);
            Check.same("messages", x.messages(1), 40);
            Check.same("not dirty, but for that of the other messages", x.dirty(0), 1);
            Check.deliverTo(x, 1);
            Check.same("room for " + room + ", mirror", x.mirrored(1), 1 + 4 - room);
        }
    }

    private static void fortyGoRoundAndRound() {
        Check.sentence("Terms: at most 40 are on their way; one more is lost");
        Run x = new Run();
        int sent = 0;
        int arrived = 0;
        for (int round = 0; round < 4; round++) {
            for (int i = 0; i < 27 + 3 * round; i++) {
                x.write(0, sent % 2, sent);
                sent++;
            }
            while (arrived < sent) {
                Check.arrivals(x, 1, MIRROR);
                Check.arrivals(x, 0, GOT);
                arrived++;
            }
            Check.arrivals(x, 1, Run.NONE);
        }
        Check.same("the last one's ticket", x.ticket(sent - 1), 1);
        Check.takeOverWhole(x, 1);
        Check.same("the last one", Check.readValue(x, 1, (sent - 1) % 2), sent - 1);
        Check.same("the last but one", Check.readValue(x, 1, sent % 2), sent - 2);
    }

    private static void fortyToOneThatIsDown() {
        Check.sentence("Terms: at most 40 are on their way ... messages to it stay");
        Run x = new Run();
        x.write(0, 0, 1);
        x.crash(1);
        Check.same("messages to it stay", x.messages(1), 1);
        withMirrors(x, 40);
        x.write(0, 0, 2);
        Check.same("one more", x.messages(1), 40);
        for (int i = 0; i < 40; i++) {
            Check.arrivals(x, 1, MIRROR);
        }
        Check.arrivals(x, 1, Run.NONE);
    }

    private static void lostWhileCut() {
        Check.sentence("Terms: and so is one while the link is CUT");
        for (int kind : new int[] {MIRROR, FORGET, NOTE, CLOSE, BEAT}) {
            Run x = aboutToSend(kind, 7);
            x.cut(true);
            send(x, kind);
            Check.same("messages, cut, kind " + kind, x.messages(1), 7);
            x.cut(false);
            Check.same("messages, no more cut, kind " + kind, x.messages(1), 7);
            for (int i = 0; i < 7; i++) {
                x.arrive(1);
            }
            Check.arrivals(x, 1, Run.NONE);
            Run beside = aboutToSend(kind, 7);
            beside.cut(true);
            beside.cut(false);
            send(beside, kind);
            Check.same("messages, not cut any more, kind " + kind, beside.messages(1), 8);
        }
        Run got = aboutToSend(GOT, 7);
        got.cut(true);
        Check.same("no GOT goes back: nothing arrives", got.arrive(0), Run.NONE);
        Check.same("messages", got.messages(1), 7);
        Check.same("it waits", got.messages(0), 1);
    }

    private static void thoseOnTheirWayWait() {
        Check.sentence("Terms: (those on their way wait)");
        Run x = new Run();
        for (int i = 0; i < 40; i++) {
            x.write(0, i % 16, 200 + i);
            x.write(1, 16 + i % 16, 300 + i);
        }
        x.cut(true);
        Check.refused("cut", x, Run.NONE, y -> y.arrive(0), y -> y.arrive(1));
        Check.same("messages", x.messages(0), 40);
        Check.same("messages", x.messages(1), 40);
        x.cut(false);
        for (int i = 0; i < 40; i++) {
            Check.arrivals(x, 0, MIRROR);
        }
        for (int i = 0; i < 40; i++) {
            Check.arrivals(x, 1, MIRROR);
        }
        Check.takeOverWhole(x, 1);
        Check.same("the last one of block 7", Check.readValue(x, 1, 7), 239);
        Check.same("the last one of block 8", Check.readValue(x, 1, 8), 224);
    }

    /** One message of each kind comes to a controller that is down: it goes, and all else is as it was. */
    private static void downTakesNoNotice() {
        Check.sentence("Terms: A MESSAGE ARRIVES (one that is down, or alone, takes no notice)");
        for (int kind = MIRROR; kind <= BEAT; kind++) {
            Run x = aboutToSend(kind, 4);
            send(x, kind);
            for (int i = 0; i < 4; i++) {
                x.arrive(1);
            }
            x.crash(1);
            takesNoNotice(x, kind);
        }
    }

    private static void aloneTakesNoNotice() {
        Check.sentence("Terms: A MESSAGE ARRIVES (one that is down, or alone, takes no notice)");
        for (int kind = MIRROR; kind <= BEAT; kind++) {
            Run x = aboutToSend(kind, 4);
            send(x, kind);
            for (int i = 0; i < 4; i++) {
                x.arrive(1);
            }
            Check.yes("alone by taking over", x.takeOver(1));
            takesNoNotice(x, kind);
        }
        aloneByBeats();
    }

    private static void takesNoNotice(Run x, int kind) {
        int[] before = states(x);
        int messagesBack = x.messages(0);
        int ticket = x.ticket(0);
        Check.same("messages", before[2], 1);
        before[2] = 0;
        Check.arrivals(x, 1, kind);
        int[] after = states(x);
        for (int what = 0; what < 14; what++) {
            Check.same("kind " + kind + ", state " + what, after[what], before[what]);
        }
        Check.same("nothing goes back", x.messages(0), messagesBack);
        Check.same("the ticket is as it was", x.ticket(0), ticket);
    }

    private static int[] states(Run x) {
        int[] states = new int[14];
        for (int what = 0; what < 14; what++) {
            states[what] = x.state(1, what);
        }
        return states;
    }

    /** What each kind would have changed is there before it comes to one that is alone by its beats. */
    private static void aloneByBeats() {
        Run x = new Run();
        Check.mirrored(x, 0, 0, 9);
        int open = x.write(1, 16, 5);
        x.flush(0);
        Check.steps(x, 0, 5, 4, 1, 4, 1);
        Check.arrivals(x, 1, NOTE);
        Check.arrivals(x, 0, MIRROR);
        Check.steps(x, 1, 8, 8, 8, 8);
        Check.steps(x, 0, 4, 6, 7, 8);
        x.write(0, 1, 7);
        Check.arrivals(x, 1, GOT, FORGET, CLOSE, BEAT, MIRROR, Run.NONE);
        Check.same("GOT: open still", x.ticket(open), 0);
        Check.same("FORGET, MIRROR: the entry that was there alone", x.mirrored(1), 1);
        Check.same("CLOSE: the remark stays", x.remarks(1), 1);
        Check.same("BEAT: missed still", x.missedBeats(1), 4);
        Check.same("no GOT but beats", x.messages(0), 4);
    }

    private static void mirrorIfThereIsNone() {
        Check.sentence("Terms: MIRROR: the mirror's entry is that, if there is none");
        for (int block : new int[] {0, 15, 16, 31}) {
            Run x = new Run();
            int owner = block / 16;
            x.write(owner, block, Integer.MIN_VALUE);
            Check.same("none", x.mirrored(1 - owner), 0);
            Check.arrivals(x, 1 - owner, MIRROR);
            Check.same("one", x.mirrored(1 - owner), 1);
            Check.same("GOT goes back", x.messages(owner), 1);
            Check.takeOverWhole(x, 1 - owner);
            Check.same("the value", Check.readValue(x, 1 - owner, block), Integer.MIN_VALUE);
        }
    }

    /** Versions begin anew behind a restart; what was there before does not count when it is gone. */
    private static void mirrorIfThereIsNoneAnyMore() {
        Check.sentence("Terms: MIRROR: the mirror's entry is that, if there is none");
        Run x = new Run();
        for (int i = 0; i < 5; i++) {
            Check.mirrored(x, 0, 0, 10 + i);
        }
        x.crash(0);
        x.restart(0);
        Check.takeOverWhole(x, 1);
        Check.same("it is not in the mirror any more", x.mirrored(1), 0);
        Check.steps(x, 1, 5, 4, 1, 4, 1, 4, 6);
        Check.yes("pair", x.pair());
        Check.yes("moveOwner", x.moveOwner(0));
        Check.mirrored(x, 0, 0, 20);
        Check.same("mirror", x.mirrored(1), 1);
        Check.takeOverWhole(x, 1);
        Check.same("the value", Check.readValue(x, 1, 0), 20);
    }

    /** An entry of no lower version can't be met: messages keep their order, and versions grow until all is cleared. */
    private static void mirrorOverALowerVersion() {
        Check.sentence("Terms: or one of a lower version; GOT goes back");
        Run x = new Run();
        for (int i = 0; i < 3; i++) {
            x.write(0, 5, 10 + i);
        }
        for (int i = 0; i < 3; i++) {
            Check.arrivals(x, 1, MIRROR);
            Check.same("one entry", x.mirrored(1), 1);
            Check.same("GOT goes back each time", x.messages(0), i + 1);
        }
        Check.takeOverWhole(x, 1);
        Check.same("the last one", Check.readValue(x, 1, 5), 12);
    }

    private static void gotIfItIsOpen() {
        Check.sentence("Terms: GOT: the ticket is done, if it is open");
        Run x = new Run();
        int first = x.write(0, 0, 1);
        int second = x.write(0, 0, 2);
        Check.arrivals(x, 1, MIRROR, MIRROR);
        Check.arrivals(x, 0, GOT);
        Check.same("its own ticket", x.ticket(first), 1);
        Check.same("not the next one", x.ticket(second), 0);
        Check.arrivals(x, 0, GOT);
        Check.same("the next one", x.ticket(second), 1);
        Run z = new Run();
        int refused = z.write(0, 0, 1);
        Check.arrivals(z, 1, MIRROR);
        z.crash(0);
        Check.arrivals(z, 0, GOT);
        Check.same("refused stays", z.ticket(refused), 2);
        Run w = new Run();
        int before = w.write(0, 0, 1);
        w.crash(0);
        w.restart(0);
        Check.arrivals(w, 1, MIRROR);
        Check.arrivals(w, 0, GOT);
        Check.same("refused stays behind a restart", w.ticket(before), 2);
    }

    private static void forgetIfItIsOfThisVersion() {
        Check.sentence("Terms: FORGET: the mirror's entry goes, if it is of this version");
        Run same = new Run();
        Check.mirrored(same, 0, 0, 1);
        Check.mirrored(same, 0, 1, 1);
        destageFirstStripe(same, 2);
        Check.arrivals(same, 1, NOTE, FORGET);
        Check.same("one goes", same.mirrored(1), 1);
        Check.arrivals(same, 1, FORGET);
        Check.same("the other goes", same.mirrored(1), 0);
        Run other = new Run();
        Check.mirrored(other, 0, 0, 1);
        other.cut(true);
        other.write(0, 0, 2);
        other.cut(false);
        destageFirstStripe(other, 1);
        Check.arrivals(other, 1, NOTE, FORGET);
        Check.same("of a lower version: it stays", other.mirrored(1), 1);
        Run none = new Run();
        none.cut(true);
        none.write(0, 0, 2);
        none.cut(false);
        Check.mirrored(none, 0, 15, 3);
        destageFirstStripe(none, 1);
        Check.arrivals(none, 1, NOTE, FORGET);
        Check.same("none: the other block's stays", none.mirrored(1), 1);
    }

    private static void destageFirstStripe(Run x, int dirty) {
        x.flush(0);
        Check.steps(x, 0, 5);
        for (int i = 0; i < dirty + 1; i++) {
            Check.steps(x, 0, 4, 1);
        }
        Check.steps(x, 0, 4);
    }

    private static void noteAndClose() {
        Check.sentence("Terms: NOTE, CLOSE: the stripe's remark is there, or not");
        for (int stripe = 0; stripe < 8; stripe++) {
            int owner = stripe / 4;
            Run x = new Run();
            Check.mirrored(x, owner, 4 * stripe, 1);
            x.flush(owner);
            Check.steps(x, owner, 5, 4, 1, 4, 1, 4, 6);
            Check.arrivals(x, 1 - owner, NOTE);
            Check.same("remark", x.remarks(1 - owner), 1 << stripe);
            Check.arrivals(x, 1 - owner, FORGET);
            Check.same("remark still", x.remarks(1 - owner), 1 << stripe);
            Check.arrivals(x, 1 - owner, CLOSE);
            Check.same("no remark", x.remarks(1 - owner), 0);
        }
        Run y = new Run();
        y.write(0, 0, 1);
        Check.deliver(y);
        y.flush(0);
        y.cut(true);
        Check.steps(y, 0, 5, 4, 1, 4, 1, 4);
        y.cut(false);
        Check.steps(y, 0, 6);
        Check.arrivals(y, 1, CLOSE);
        Check.same("CLOSE without a remark", y.remarks(1), 0);
    }

    private static void beatAfterThree() {
        Check.sentence("Terms: BEAT: 0 beats are missed");
        for (int missed = 0; missed <= 3; missed++) {
            Run x = new Run();
            for (int i = 0; i < missed; i++) {
                Check.steps(x, 0, 8);
            }
            Check.steps(x, 1, 8);
            Check.same("missed", x.missedBeats(0), missed);
            Check.arrivals(x, 0, BEAT);
            Check.same("missed", x.missedBeats(0), 0);
            Check.same("the sender's", x.missedBeats(1), 1);
            Check.steps(x, 0, 8, 8, 8);
            Check.yes("paired with three more", x.isPaired(0));
            Check.steps(x, 0, 8);
            Check.no("paired with four more", x.isPaired(0));
        }
    }

    private static void noneWhenThereIsNone() {
        Check.sentence("Promise 7: NONE when there is none");
        Run x = new Run();
        Check.refused("new", x, Run.NONE, y -> y.arrive(0), y -> y.arrive(1));
        Check.steps(x, 0, 8);
        Check.refused("the other one has one", x, Run.NONE, y -> y.arrive(0));
        Check.arrivals(x, 1, BEAT);
        Check.refused("it had one", x, Run.NONE, y -> y.arrive(0), y -> y.arrive(1));
        Check.makeAlone(x, 1);
        Check.refused("alone", x, Run.NONE, y -> y.arrive(1));
        x.crash(0);
        Check.refused("down", x, Run.NONE, y -> y.arrive(0));
    }

    private static void noneWhileCut() {
        Check.sentence("Promise 7: NONE when ... the link is cut");
        for (int c = 0; c < 2; c++) {
            int controller = c;
            Run x = new Run();
            x.write(1 - c, 16 * (1 - c), 8);
            x.cut(true);
            Check.refused("cut", x, Run.NONE, y -> y.arrive(controller));
            x.crash(c);
            Check.refused("cut, down", x, Run.NONE, y -> y.arrive(controller));
            x.cut(false);
            Check.arrivals(x, c, MIRROR, Run.NONE);
        }
    }

    private static void noneOfNoController() {
        Check.sentence("Promise 7 and Terms: Calls with numbers that are not as said are refused");
        Run x = new Run();
        x.write(0, 0, 8);
        x.write(1, 16, 8);
        for (int controller : NO_CONTROLLER) {
            Check.refused("controller " + controller, x, Run.NONE, y -> y.arrive(controller));
        }
    }

    private static void cutTwice() {
        Check.sentence("Promise 8: The link is cut, or not");
        Run x = new Run();
        x.cut(false);
        Check.steps(x, 0, 8);
        Check.same("not cut", x.messages(1), 1);
        x.cut(true);
        x.cut(true);
        Check.steps(x, 0, 8);
        Check.same("cut", x.messages(1), 1);
        x.cut(false);
        Check.steps(x, 0, 8);
        Check.same("once is enough", x.messages(1), 2);
        Check.arrivals(x, 1, BEAT, BEAT, Run.NONE);
    }
}
