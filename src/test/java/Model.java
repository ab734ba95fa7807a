import java.util.ArrayDeque;
import java.util.ArrayList;
import java.util.Deque;
import java.util.List;
import java.util.Map;
import java.util.NoSuchElementException;
import java.util.TreeMap;
import java.util.TreeSet;

/**
 * The document said once more as a program, in its order and as plainly as the Java library lets it, with no thought
 * of room or speed: what TwinArray answers is compared with what this answers.
 */
final class Model {
    private static final int NONE = -1;

    private final List<Disk> disks = new ArrayList<>();
    private final List<Controller> controllers = new ArrayList<>();
    private final List<Ticket> tickets = new ArrayList<>();
    private final List<DiskWrite> lates = new ArrayList<>();
    private boolean cut = false;

    /** A block that is missing is null. */
    private static final class Disk {
        boolean there = true;
        int key = 1;
        Integer[] blocks = {0, 0, 0, 0, 0, 0, 0, 0};
    }

    private record Entry(int value, int version, boolean dirty) {
    }

    private record DiskWrite(Disk disk, int stripe, int value, int key) {
    }

    private record Message(int number, int place, int value, int version, Ticket ticket) {
    }

    private static final class Ticket {
        final Controller controller;
        final int block;
        final int version;
        final int value;
        int state;

        Ticket(Controller controller, int block, int version, int value, int state) {
            this.controller = controller;
            this.block = block;
            this.version = version;
            this.value = value;
            this.state = state;
        }
    }

    /** What was taken of a stripe: by block the dirty entries, what is still to be written, and the parity. */
    private static final class Destaging {
        final int stripe;
        final Map<Integer, Entry> taken = new TreeMap<>();
        final Deque<DiskWrite> toWrite = new ArrayDeque<>();

        Destaging(int stripe) {
            this.stripe = stripe;
        }
    }

    /** One that goes down is made anew, with its key and the messages to it. */
    private static final class Controller {
        final int number;
        final Deque<Message> messages;
        int key;
        boolean up = true;
        boolean paired = false;
        final TreeSet<Integer> volumes = new TreeSet<>();
        final Map<Integer, Entry> cache = new TreeMap<>();
        final Map<Integer, Entry> mirror = new TreeMap<>();
        final TreeSet<Integer> notes = new TreeSet<>();
        final TreeSet<Integer> remarks = new TreeSet<>();
        final TreeSet<Integer> repairs = new TreeSet<>();
        DiskWrite underWay = null;
        List<Disk> takenOver = null;
        Destaging destaging = null;
        boolean toFlush = false;
        int missed = 0;
        int versions = 0;

        Controller(int number, int key, Deque<Message> messages) {
            this.number = number;
            this.key = key;
            this.messages = messages;
        }

        boolean isTakingOver() {
            return takenOver != null;
        }

        boolean isDirty(int block) {
            return cache.containsKey(block) && cache.get(block).dirty;
        }

        int dirtyOf(int firstBlock, int blocks) {
            int dirty = 0;
            for (int block = firstBlock; block < firstBlock + blocks; block++) {
                dirty += isDirty(block) ? 1 : 0;
            }
            return dirty;
        }

        int dirty() {
            return dirtyOf(0, 32);
        }
    }

    Model() {
        for (int d = 0; d < 5; d++) {
            disks.add(new Disk());
        }
        for (int c = 0; c < 2; c++) {
            Controller made = new Controller(c, 1, new ArrayDeque<>());
            made.paired = true;
            made.volumes.add(c);
            controllers.add(made);
        }
    }

    private Controller partner(Controller c) {
        return controllers.get(1 - c.number);
    }

    private Disk parityDisk(int stripe) {
        return disks.get(4 - stripe % 5);
    }

    private Disk diskOf(int block) {
        List<Disk> data = new ArrayList<>(disks);
        data.remove(parityDisk(block / 4));
        return data.get(block % 4);
    }

    /** Null if one of them is missing. */
    private Integer xorOfOthers(Disk disk, int stripe) {
        int xor = 0;
        for (Disk other : disks) {
            if (other != disk) {
                if (other.blocks[stripe] == null) {
                    return null;
                }
                xor ^= other.blocks[stripe];
            }
        }
        return xor;
    }

    /** Null if it is lost. */
    private Integer whatIs(int block) {
        Disk disk = diskOf(block);
        Integer there = disk.blocks[block / 4];
        return there != null ? there : xorOfOthers(disk, block / 4);
    }

    private boolean isMissingIn(int stripe) {
        for (Disk disk : disks) {
            if (disk.blocks[stripe] == null) {
                return true;
            }
        }
        return false;
    }

    private List<Disk> disksThere() {
        List<Disk> there = new ArrayList<>(disks);
        there.removeIf(disk -> !disk.there);
        return there;
    }

    private int disksOfOtherKey(int key) {
        List<Disk> others = disksThere();
        others.removeIf(disk -> disk.key == key);
        return others.size();
    }

    private int greatestKeyThere() {
        int greatest = 0;
        for (Disk disk : disksThere()) {
            greatest = Math.max(greatest, disk.key);
        }
        return greatest;
    }

    private void send(Controller to, Message message) {
        if (!cut && to.messages.size() < 40) {
            to.messages.add(message);
        }
    }

    private void sendIfPaired(Controller from, int number, int place, int version) {
        if (from.paired) {
            send(partner(from), new Message(number, place, 0, version, null));
        }
    }

    private void goDown(Controller c) {
        Controller down = new Controller(c.number, c.key, c.messages);
        down.up = false;
        controllers.set(c.number, down);
        if (c.underWay != null && lates.size() < 20) {
            lates.add(c.underWay);
        }
        for (Ticket ticket : tickets) {
            if (ticket.controller == c && ticket.state == 0) {
                ticket.state = 2;
            }
        }
    }

    private int give(Ticket ticket) {
        tickets.add(ticket);
        return tickets.size() - 1;
    }

    private boolean isIn(int number, int count) {
        return number >= 0 && number < count;
    }

    private boolean noTicketFor(int controller, int block) {
        return !isIn(controller, 2) || !isIn(block, 32) || tickets.size() == 200;
    }

    private boolean serves(Controller c, int block) {
        return c.up && c.volumes.contains(block / 16);
    }

    int write(int controller, int block, int value) {
        if (noTicketFor(controller, block)) {
            return NONE;
        }
        Controller c = controllers.get(controller);
        if (!serves(c, block)) {
            return give(new Ticket(c, block, 0, value, 2));
        }
        c.versions++;
        c.cache.put(block, new Entry(value, c.versions, true));
        Ticket ticket = new Ticket(c, block, c.versions, value, 0);
        if (c.paired) {
            send(partner(c), new Message(0, block, value, c.versions, ticket));
        }
        return give(ticket);
    }

    int read(int controller, int block) {
        if (noTicketFor(controller, block)) {
            return NONE;
        }
        Controller c = controllers.get(controller);
        Ticket refused = new Ticket(c, block, 0, 0, 2);
        if (!serves(c, block)) {
            return give(refused);
        }
        if (disksOfOtherKey(c.key) >= 3) {
            goDown(c);
            return give(refused);
        }
        if (!c.cache.containsKey(block)) {
            Integer is = whatIs(block);
            if (is == null) {
                return give(refused);
            }
            c.cache.put(block, new Entry(is, 0, false));
        }
        return give(new Ticket(c, block, 0, c.cache.get(block).value, 1));
    }

    private Ticket ticketNumbered(int t) {
        if (!isIn(t, tickets.size())) {
            throw new NoSuchElementException();
        }
        return tickets.get(t);
    }

    int ticket(int t) {
        return ticketNumbered(t).state;
    }

    int value(int t) {
        return ticketNumbered(t).value;
    }

    int step(int controller) {
        if (!isIn(controller, 2)) {
            return NONE;
        }
        Controller c = controllers.get(controller);
        if (!c.up) {
            return 0;
        }
        if (c.underWay != null) {
            land(c);
            return 1;
        }
        if (c.isTakingOver()) {
            goOnTakingOver(c);
            return 2;
        }
        if (!c.repairs.isEmpty()) {
            repair(c, c.repairs.first());
            return 3;
        }
        if (c.destaging != null) {
            goOnDestaging(c);
            return 4;
        }
        if ((c.toFlush || !c.paired) && c.dirty() > 0) {
            destage(c);
            return 5;
        }
        // What is to be repaired has been step 3, so no note here is of such a stripe.
        if (!c.notes.isEmpty()) {
            sendIfPaired(c, 4, c.notes.pollFirst(), 0);
            return 6;
        }
        if (c.toFlush) {
            c.toFlush = false;
            return 7;
        }
        if (c.paired) {
            sendIfPaired(c, 5, 0, 0);
            c.missed++;
            c.paired = c.missed < 4;
            return 8;
        }
        return 9;
    }

    private void land(Controller c) {
        DiskWrite landing = c.underWay;
        c.underWay = null;
        if (landing.disk.there && !hasLanded(landing)) {
            goDown(c);
        }
    }

    private boolean hasLanded(DiskWrite landing) {
        boolean lands = landing.disk.there && landing.disk.key == landing.key;
        if (lands) {
            landing.disk.blocks[landing.stripe] = landing.value;
        }
        return lands;
    }

    private void goOnTakingOver(Controller c) {
        List<Disk> left = disksThere();
        if (!c.takenOver.isEmpty()) {
            int last = disks.indexOf(c.takenOver.get(c.takenOver.size() - 1));
            left.removeIf(disk -> disks.indexOf(disk) <= last);
        }
        if (!left.isEmpty()) {
            left.get(0).key = c.key;
            c.takenOver.add(left.get(0));
            return;
        }
        int taken = c.takenOver.size();
        c.takenOver = null;
        if (taken < 4) {
            goDown(c);
            return;
        }
        c.volumes.addAll(List.of(0, 1));
        c.mirror.forEach((block, entry) -> {
            c.versions++;
            c.cache.put(block, new Entry(entry.value, c.versions, true));
        });
        c.mirror.clear();
        c.notes.addAll(c.remarks);
        c.repairs.addAll(c.remarks);
        c.remarks.clear();
    }

    private void repair(Controller c, int stripe) {
        if (!isMissingIn(stripe)) {
            int xor = whatIs(4 * stripe) ^ whatIs(4 * stripe + 1) ^ whatIs(4 * stripe + 2) ^ whatIs(4 * stripe + 3);
            c.underWay = new DiskWrite(parityDisk(stripe), stripe, xor, c.key);
        }
        c.repairs.remove(stripe);
    }

    private void destage(Controller c) {
        int stripe = 0;
        for (int other = 1; other < 8; other++) {
            stripe = c.dirtyOf(4 * other, 4) > c.dirtyOf(4 * stripe, 4) ? other : stripe;
        }
        c.notes.add(stripe);
        sendIfPaired(c, 3, stripe, 0);
        c.destaging = new Destaging(stripe);
        Integer parity = 0;
        for (int block = 4 * stripe; block < 4 * stripe + 4; block++) {
            Integer data = whatIs(block);
            if (c.isDirty(block)) {
                data = c.cache.get(block).value;
                c.destaging.taken.put(block, c.cache.get(block));
                c.destaging.toWrite.add(new DiskWrite(diskOf(block), stripe, data, 0));
            }
            parity = parity == null || data == null ? null : Integer.valueOf(parity ^ data);
        }
        if (parity != null) {
            c.destaging.toWrite.add(new DiskWrite(parityDisk(stripe), stripe, parity, 0));
        }
    }

    private void goOnDestaging(Controller c) {
        while (!c.destaging.toWrite.isEmpty()) {
            DiskWrite next = c.destaging.toWrite.remove();
            if (next.disk.there) {
                c.underWay = new DiskWrite(next.disk, next.stripe, next.value, c.key);
                return;
            }
        }
        c.destaging.taken.forEach((block, entry) -> {
            if (c.cache.get(block).version == entry.version) {
                c.cache.put(block, new Entry(entry.value, entry.version, false));
                sendIfPaired(c, 2, block, entry.version);
            }
            for (Ticket ticket : tickets) {
                boolean isOfIt = ticket.controller == c && ticket.block == block && ticket.version <= entry.version;
                if (!c.paired && isOfIt && ticket.state == 0) {
                    ticket.state = 1;
                }
            }
        });
        c.destaging = null;
    }

    int arrive(int controller) {
        if (!isIn(controller, 2) || cut || controllers.get(controller).messages.isEmpty()) {
            return NONE;
        }
        Controller c = controllers.get(controller);
        Message message = c.messages.remove();
        if (c.up && c.paired) {
            take(c, message);
        }
        return message.number;
    }

    private void take(Controller c, Message m) {
        Entry mirrored = c.mirror.get(m.place);
        switch (m.number) {
            case 0 -> {
                if (mirrored == null || mirrored.version < m.version) {
                    c.mirror.put(m.place, new Entry(m.value, m.version, false));
                }
                send(partner(c), new Message(1, 0, 0, 0, m.ticket));
            }
            case 1 -> m.ticket.state = m.ticket.state == 0 ? 1 : m.ticket.state;
            case 2 -> {
                if (mirrored != null && mirrored.version == m.version) {
                    c.mirror.remove(m.place);
                }
            }
            case 3 -> c.remarks.add(m.place);
            case 4 -> c.remarks.remove(m.place);
            default -> c.missed = 0;
        }
    }

    void cut(boolean on) {
        cut = on;
    }

    private boolean isUp(int controller) {
        return isIn(controller, 2) && controllers.get(controller).up;
    }

    boolean crash(int controller) {
        boolean crashes = isUp(controller);
        if (crashes) {
            goDown(controllers.get(controller));
        }
        return crashes;
    }

    boolean restart(int controller) {
        boolean restarts = isIn(controller, 2) && !isUp(controller);
        if (restarts) {
            int key = controllers.get(controller).key;
            controllers.set(controller, new Controller(controller, key, new ArrayDeque<>()));
        }
        return restarts;
    }

    private boolean isHindered(Controller c) {
        return !c.up || c.isTakingOver() || c.destaging != null || c.dirty() > 0 || !c.notes.isEmpty()
            || c.underWay != null;
    }

    boolean pair() {
        Controller zero = controllers.get(0);
        Controller one = controllers.get(1);
        boolean isZerosKey = disksOfOtherKey(zero.key) == 0;
        boolean isOnesKey = disksOfOtherKey(one.key) == 0;
        if (isHindered(zero) || isHindered(one) || cut || !isZerosKey && !isOnesKey) {
            return false;
        }
        TreeSet<Integer> ofNone = new TreeSet<>(List.of(0, 1));
        ofNone.removeAll(zero.volumes);
        ofNone.removeAll(one.volumes);
        for (Controller c : controllers) {
            for (int block : c.mirror.keySet()) {
                if (ofNone.contains(block / 16)) {
                    return false;
                }
            }
        }
        TreeSet<Integer> ofBoth = new TreeSet<>(zero.volumes);
        ofBoth.retainAll(one.volumes);
        zero.volumes.addAll(ofNone);
        (isZerosKey ? one : zero).volumes.removeAll(ofBoth);
        int key = isZerosKey ? zero.key : one.key;
        for (Controller c : controllers) {
            c.paired = true;
            c.key = key;
            c.cache.clear();
            c.mirror.clear();
            c.remarks.clear();
            c.missed = 0;
            c.messages.clear();
        }
        return true;
    }

    boolean takeOver(int controller) {
        if (!isUp(controller) || controllers.get(controller).isTakingOver()) {
            return false;
        }
        Controller c = controllers.get(controller);
        c.takenOver = new ArrayList<>();
        c.paired = false;
        c.key = Math.max(c.key, greatestKeyThere()) + 1;
        return true;
    }

    boolean moveOwner(int volume) {
        List<Controller> owners = new ArrayList<>(controllers);
        owners.removeIf(c -> !c.volumes.contains(volume));
        for (Controller c : controllers) {
            if (!c.up || !c.paired || !c.messages.isEmpty()) {
                return false;
            }
        }
        if (owners.size() != 1) {
            return false;
        }
        Controller owner = owners.get(0);
        boolean hasNote = !owner.notes.subSet(4 * volume, 4 * volume + 4).isEmpty();
        boolean destages = owner.destaging != null && owner.destaging.stripe / 4 == volume;
        if (owner.dirtyOf(16 * volume, 16) > 0 || hasNote || destages) {
            return false;
        }
        owner.volumes.remove(volume);
        owner.cache.keySet().removeIf(block -> block / 16 == volume);
        partner(owner).volumes.add(volume);
        partner(owner).mirror.keySet().removeIf(block -> block / 16 == volume);
        return true;
    }

    boolean flush(int controller) {
        if (!isUp(controller)) {
            return false;
        }
        controllers.get(controller).toFlush = true;
        return true;
    }

    private boolean isThere(int disk) {
        return isIn(disk, 5) && disks.get(disk).there;
    }

    boolean lose(int disk) {
        if (!isThere(disk)) {
            return false;
        }
        disks.get(disk).there = false;
        disks.get(disk).blocks = new Integer[8];
        return true;
    }

    boolean replace(int disk) {
        if (!isIn(disk, 5) || isThere(disk)) {
            return false;
        }
        disks.get(disk).key = greatestKeyThere();
        disks.get(disk).there = true;
        return true;
    }

    int rebuild(int disk) {
        if (!isThere(disk)) {
            return NONE;
        }
        Disk rebuilt = disks.get(disk);
        for (int stripe = 0; stripe < 8; stripe++) {
            if (rebuilt.blocks[stripe] == null) {
                rebuilt.blocks[stripe] = xorOfOthers(rebuilt, stripe);
                return rebuilt.blocks[stripe] == null ? NONE : stripe;
            }
        }
        return NONE;
    }

    int late(int k) {
        if (!isIn(k, lates.size())) {
            return NONE;
        }
        return hasLanded(lates.remove(k)) ? 1 : 0;
    }

    int lates() {
        return lates.size();
    }

    int parityGood(int stripe) {
        if (!isIn(stripe, 8) || isMissingIn(stripe)) {
            return NONE;
        }
        Disk parity = parityDisk(stripe);
        return parity.blocks[stripe].equals(xorOfOthers(parity, stripe)) ? 1 : 0;
    }

    int onDisk(int disk, int stripe) {
        if (!isIn(disk, 5) || !isIn(stripe, 8) || disks.get(disk).blocks[stripe] == null) {
            throw new NoSuchElementException();
        }
        return disks.get(disk).blocks[stripe];
    }

    int keyOf(int disk) {
        return isThere(disk) ? disks.get(disk).key : NONE;
    }

    int state(int controller, int what) {
        if (!isIn(controller, 2)) {
            return NONE;
        }
        Controller c = controllers.get(controller);
        return switch (what) {
            case 0 -> c.dirty();
            case 1 -> c.mirror.size();
            case 2 -> c.messages.size();
            case 3 -> c.missed;
            case 4 -> c.key;
            case 5 -> c.up ? 1 : 0;
            case 6 -> c.paired ? 1 : 0;
            case 7 -> c.isTakingOver() ? 1 : 0;
            case 8 -> c.toFlush ? 1 : 0;
            case 9 -> c.destaging == null ? NONE : c.destaging.stripe;
            case 10 -> bits(c.volumes);
            case 11 -> bits(c.notes);
            case 12 -> bits(c.remarks);
            case 13 -> bits(c.repairs);
            default -> NONE;
        };
    }

    private int bits(TreeSet<Integer> numbers) {
        int bits = 0;
        for (int number : numbers) {
            bits |= 1 << number;
        }
        return bits;
    }
}
