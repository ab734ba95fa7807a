import java.util.NoSuchElementException;

/** Two controllers that serve two volumes on the same five disks. The promises by number are in the document, DOC.md. */
public final class TwinArray {
    public static final int NONE = -1;

    private static final int DISKS = 5;
    private static final int STRIPES = 8;
    private static final int DATA_OF_STRIPE = 4;
    private static final int BLOCKS = 32;
    private static final int VOLUMES = 2;
    private static final int BLOCKS_OF_VOLUME = 16;
    private static final int STRIPES_OF_VOLUME = 4;
    private static final int BOTH_VOLUMES = 3;

    private static final int MOST_MESSAGES = 40;
    private static final int MOST_TICKETS = 200;
    private static final int MOST_LATES = 20;
    private static final int BEATS_TO_BE_ALONE = 4;
    private static final int DISKS_TO_TAKE_OVER = 4;
    private static final int OTHER_KEYS_TO_FENCE = 3;

    private static final int MIRROR = 0;
    private static final int GOT = 1;
    private static final int FORGET = 2;
    private static final int NOTE = 3;
    private static final int CLOSE = 4;
    private static final int BEAT = 5;

    private static final int OPEN = 0;
    private static final int DONE = 1;
    private static final int REFUSED = 2;

    private final Disks disks;
    private final Tickets tickets;
    private final LateWrites lateWrites;
    private final Controller zero;
    private final Controller one;
    private boolean linkIsCut;

    public TwinArray() {
        disks = new Disks();
        tickets = new Tickets();
        lateWrites = new LateWrites();
        zero = new Controller(0);
        one = new Controller(1);
        linkIsCut = false;
    }

    public int write(int controller, int block, int value) {
        if (!isController(controller) || !isBlock(block) || tickets.areFull()) {
            return NONE;
        }
        Controller c = numbered(controller);
        if (!c.serves(block)) {
            return tickets.add(REFUSED, value);
        }
        int version = c.newVersion();
        c.cache.put(block, value, version, true);
        int t = tickets.addOpenWrite(c.number, block, version, value);
        if (c.paired) {
            send(partnerOf(c), MIRROR, block, value, version, t);
        }
        return t;
    }

    public int read(int controller, int block) {
        if (!isController(controller) || !isBlock(block) || tickets.areFull()) {
            return NONE;
        }
        Controller c = numbered(controller);
        if (!c.serves(block)) {
            return tickets.add(REFUSED, 0);
        }
        if (disks.withOtherKeyThan(c.key) >= OTHER_KEYS_TO_FENCE) {
            goDown(c);
            return tickets.add(REFUSED, 0);
        }
        if (!c.cache.held[block]) {
            if (disks.isDataLost(block)) {
                return tickets.add(REFUSED, 0);
            }
            c.cache.put(block, disks.dataOf(block), 0, false);
        }
        return tickets.add(DONE, c.cache.values[block]);
    }

    public int ticket(int t) throws NoSuchElementException {
        if (!tickets.has(t)) {
            throw new NoSuchElementException();
        }
        return tickets.states[t];
    }

    public int value(int t) throws NoSuchElementException {
        if (!tickets.has(t)) {
            throw new NoSuchElementException();
        }
        return tickets.values[t];
    }

    public int step(int controller) {
        if (!isController(controller)) {
            return NONE;
        }
        Controller c = numbered(controller);
        return c.up ? doFirstThatCanBeDone(c) : 0;
    }

    public int arrive(int controller) {
        if (!isController(controller) || linkIsCut) {
            return NONE;
        }
        Controller c = numbered(controller);
        if (c.inbox.count == 0) {
            return NONE;
        }
        int slot = c.inbox.takeFirst();
        int kind = c.inbox.kinds[slot];
        if (c.up && c.paired) {
            notice(c, kind, slot);
        }
        return kind;
    }

    public void cut(boolean on) {
        linkIsCut = on;
    }

    public boolean crash(int controller) {
        if (!isController(controller) || !numbered(controller).up) {
            return false;
        }
        goDown(numbered(controller));
        return true;
    }

    public boolean restart(int controller) {
        if (!isController(controller) || numbered(controller).up) {
            return false;
        }
        Controller c = numbered(controller);
        c.up = true;
        c.inbox.empty();
        return true;
    }

    public boolean pair() {
        if (linkIsCut || !zero.isReadyToPair() || !one.isReadyToPair()) {
            return false;
        }
        boolean keyIsZeros = disks.withOtherKeyThan(zero.key) == 0;
        if (!keyIsZeros && disks.withOtherKeyThan(one.key) != 0) {
            return false;
        }
        if (isAnyToBeTakenOverFirst()) {
            return false;
        }
        int key = keyIsZeros ? zero.key : one.key;
        shareOutVolumes(keyIsZeros);
        zero.beginPaired(key);
        one.beginPaired(key);
        return true;
    }

    public boolean takeOver(int controller) {
        if (!isController(controller)) {
            return false;
        }
        Controller c = numbered(controller);
        if (!c.up || c.takingOver) {
            return false;
        }
        c.paired = false;
        c.key = Math.max(c.key, disks.greatestKey()) + 1;
        c.takingOver = true;
        c.nextDisk = 0;
        c.disksTaken = 0;
        return true;
    }

    public boolean moveOwner(int volume) {
        if (!isVolume(volume) || !zero.up || !one.up || !zero.paired || !one.paired) {
            return false;
        }
        if (zero.owns(volume) == one.owns(volume) || zero.inbox.count + one.inbox.count != 0) {
            return false;
        }
        Controller from = zero.owns(volume) ? zero : one;
        if (from.isBusyIn(volume)) {
            return false;
        }
        Controller to = partnerOf(from);
        from.owned &= ~(1 << volume);
        to.owned |= 1 << volume;
        from.cache.dropVolume(volume);
        to.mirror.dropVolume(volume);
        return true;
    }

    public boolean flush(int controller) {
        if (!isController(controller) || !numbered(controller).up) {
            return false;
        }
        numbered(controller).toFlush = true;
        return true;
    }

    public boolean lose(int disk) {
        if (!isDisk(disk) || !disks.there[disk]) {
            return false;
        }
        disks.remove(disk);
        return true;
    }

    public boolean replace(int disk) {
        if (!isDisk(disk) || disks.there[disk]) {
            return false;
        }
        disks.insert(disk);
        return true;
    }

    public int rebuild(int disk) {
        if (!isDisk(disk) || !disks.there[disk]) {
            return NONE;
        }
        int stripe = disks.lowestMissing(disk);
        if (stripe == NONE || disks.isOtherMissing(disk, stripe)) {
            return NONE;
        }
        disks.put(disk, stripe, disks.xorOfOthers(disk, stripe));
        return stripe;
    }

    public int late(int k) {
        if (!lateWrites.has(k)) {
            return NONE;
        }
        int disk = lateWrites.disks[k];
        boolean lands = disks.there[disk] && disks.keys[disk] == lateWrites.keys[k];
        if (lands) {
            disks.put(disk, lateWrites.stripes[k], lateWrites.values[k]);
        }
        lateWrites.remove(k);
        return lands ? 1 : 0;
    }

    public int lates() {
        return lateWrites.count;
    }

    public int parityGood(int stripe) {
        if (!isStripe(stripe) || disks.isAnyMissing(stripe)) {
            return NONE;
        }
        int parity = parityDisk(stripe);
        return disks.blockOn(parity, stripe) == disks.xorOfOthers(parity, stripe) ? 1 : 0;
    }

    public int onDisk(int disk, int stripe) throws NoSuchElementException {
        if (!isDisk(disk) || !isStripe(stripe) || disks.isMissing(disk, stripe)) {
            throw new NoSuchElementException();
        }
        return disks.blockOn(disk, stripe);
    }

    public int keyOf(int disk) {
        return isDisk(disk) && disks.there[disk] ? disks.keys[disk] : NONE;
    }

    public int state(int controller, int what) {
        if (!isController(controller)) {
            return NONE;
        }
        Controller c = numbered(controller);
        switch (what) {
            case 0: return c.cache.countDirty();
            case 1: return c.mirror.countHeld();
            case 2: return c.inbox.count;
            case 3: return c.missedBeats;
            case 4: return c.key;
            case 5: return c.up ? 1 : 0;
            case 6: return c.paired ? 1 : 0;
            case 7: return c.takingOver ? 1 : 0;
            case 8: return c.toFlush ? 1 : 0;
            case 9: return c.destage.stripe;
            case 10: return c.owned;
            case 11: return c.notes;
            case 12: return c.remarks;
            case 13: return c.repairs;
            default: return NONE;
        }
    }

    private static boolean isController(int number) {
        return number == 0 || number == 1;
    }

    private static boolean isBlock(int number) {
        return number >= 0 && number < BLOCKS;
    }

    private static boolean isVolume(int number) {
        return number >= 0 && number < VOLUMES;
    }

    private static boolean isDisk(int number) {
        return number >= 0 && number < DISKS;
    }

    private static boolean isStripe(int number) {
        return number >= 0 && number < STRIPES;
    }

    private static int parityDisk(int stripe) {
        return DISKS - 1 - stripe % DISKS;
    }

    private static int dataDisk(int stripe, int place) {
        return place < parityDisk(stripe) ? place : place + 1;
    }

    private static boolean isIn(int bits, int number) {
        return (bits >> number & 1) == 1;
    }

    private static int lowestStripeIn(int bits) {
        for (int stripe = 0; stripe < STRIPES; stripe++) {
            if (isIn(bits, stripe)) {
                return stripe;
            }
        }
        return NONE;
    }

    private Controller numbered(int controller) {
        return controller == 0 ? zero : one;
    }

    private Controller partnerOf(Controller c) {
        return c.number == 0 ? one : zero;
    }

    private void send(Controller to, int kind, int place, int value, int version, int ticket) {
        if (!linkIsCut) {
            to.inbox.add(kind, place, value, version, ticket);
        }
    }

    private void sendIfPaired(Controller c, int kind, int place, int version) {
        if (c.paired) {
            send(partnerOf(c), kind, place, 0, version, NONE);
        }
    }

    private void notice(Controller c, int kind, int slot) {
        Inbox in = c.inbox;
        int place = in.places[slot];
        switch (kind) {
            case MIRROR:
                c.mirror.putIfNewer(place, in.values[slot], in.versions[slot]);
                send(partnerOf(c), GOT, 0, 0, 0, in.tickets[slot]);
                break;
            case GOT:
                tickets.finish(in.tickets[slot]);
                break;
            case FORGET:
                c.mirror.dropVersion(place, in.versions[slot]);
                break;
            case NOTE:
                c.remarks |= 1 << place;
                break;
            case CLOSE:
                c.remarks &= ~(1 << place);
                break;
            default:
                c.missedBeats = 0;
                break;
        }
    }

    private void goDown(Controller c) {
        if (c.write.underWay) {
            lateWrites.add(c.write);
        }
        tickets.refuseOpen(c.number);
        c.forgetAllButKey();
    }

    private int doFirstThatCanBeDone(Controller c) {
        if (c.write.underWay) {
            land(c);
            return 1;
        }
        if (c.takingOver) {
            goOnTakingOver(c);
            return 2;
        }
        if (lowestStripeIn(c.repairs) != NONE) {
            repair(c, lowestStripeIn(c.repairs));
            return 3;
        }
        if (c.destage.stripe != NONE) {
            goOnDestaging(c);
            return 4;
        }
        if ((c.toFlush || !c.paired) && c.cache.countDirty() > 0) {
            beginDestaging(c);
            return 5;
        }
        return doFirstWithoutWrites(c);
    }

    private int doFirstWithoutWrites(Controller c) {
        int stripe = lowestStripeIn(c.notes & ~c.repairs);
        if (stripe != NONE) {
            c.notes &= ~(1 << stripe);
            sendIfPaired(c, CLOSE, stripe, 0);
            return 6;
        }
        if (c.toFlush) {
            c.toFlush = false;
            return 7;
        }
        if (c.paired) {
            beat(c);
            return 8;
        }
        return 9;
    }

    private void beat(Controller c) {
        sendIfPaired(c, BEAT, 0, 0);
        c.missedBeats++;
        if (c.missedBeats >= BEATS_TO_BE_ALONE) {
            c.paired = false;
        }
    }

    private void land(Controller c) {
        DiskWrite w = c.write;
        // A write that has come to its disk is no more under way: if it is refused there, it is not late as well.
        w.underWay = false;
        if (!disks.there[w.disk]) {
            return;
        }
        if (disks.keys[w.disk] == w.key) {
            disks.put(w.disk, w.stripe, w.value);
        } else {
            goDown(c);
        }
    }

    private void goOnTakingOver(Controller c) {
        int disk = disks.firstThereFrom(c.nextDisk);
        if (disk != NONE) {
            disks.keys[disk] = c.key;
            c.disksTaken++;
            c.nextDisk = disk + 1;
        } else if (c.disksTaken < DISKS_TO_TAKE_OVER) {
            goDown(c);
        } else {
            c.finishTakingOver();
        }
    }

    private void repair(Controller c, int stripe) {
        c.repairs &= ~(1 << stripe);
        if (!disks.isAnyMissing(stripe)) {
            int parity = parityDisk(stripe);
            c.write.begin(parity, stripe, disks.xorOfOthers(parity, stripe), c.key);
        }
    }

    private void beginDestaging(Controller c) {
        int stripe = c.cache.dirtiestStripe();
        c.notes |= 1 << stripe;
        sendIfPaired(c, NOTE, stripe, 0);
        c.destage.begin(stripe);
        for (int place = 0; place < DATA_OF_STRIPE; place++) {
            takeData(c, stripe * DATA_OF_STRIPE + place, place);
        }
    }

    private void takeData(Controller c, int block, int place) {
        if (c.cache.dirty[block]) {
            c.destage.takeDirty(place, c.cache.values[block], c.cache.versions[block]);
        } else if (disks.isDataLost(block)) {
            c.destage.dataLost = true;
        } else {
            c.destage.values[place] = disks.dataOf(block);
        }
    }

    private void goOnDestaging(Controller c) {
        Destage d = c.destage;
        for (int place = d.nextPlace; place < DATA_OF_STRIPE; place++) {
            d.nextPlace = place + 1;
            int disk = dataDisk(d.stripe, place);
            if (d.wasDirty[place] && disks.there[disk]) {
                c.write.begin(disk, d.stripe, d.values[place], c.key);
                return;
            }
        }
        int parity = parityDisk(d.stripe);
        if (!d.parityPassed && !d.dataLost && disks.there[parity]) {
            d.parityPassed = true;
            c.write.begin(parity, d.stripe, d.xorOfData(), c.key);
            return;
        }
        finishDestaging(c);
    }

    private void finishDestaging(Controller c) {
        Destage d = c.destage;
        for (int place = 0; place < DATA_OF_STRIPE; place++) {
            if (d.wasDirty[place]) {
                releaseTaken(c, d.stripe * DATA_OF_STRIPE + place, d.versions[place]);
            }
        }
        d.stripe = NONE;
    }

    private void releaseTaken(Controller c, int block, int version) {
        if (c.cache.held[block] && c.cache.versions[block] == version) {
            c.cache.dirty[block] = false;
            sendIfPaired(c, FORGET, block, version);
        }
        if (!c.paired) {
            tickets.finishWrites(c.number, block, version);
        }
    }

    private boolean isAnyToBeTakenOverFirst() {
        for (int volume = 0; volume < VOLUMES; volume++) {
            boolean isOwned = zero.owns(volume) || one.owns(volume);
            if (!isOwned && (zero.mirror.holdsOfVolume(volume) || one.mirror.holdsOfVolume(volume))) {
                return true;
            }
        }
        return false;
    }

    private void shareOutVolumes(boolean keyIsZeros) {
        int ofNone = BOTH_VOLUMES & ~(zero.owned | one.owned);
        int ofBoth = zero.owned & one.owned;
        zero.owned |= ofNone;
        if (keyIsZeros) {
            one.owned &= ~ofBoth;
        } else {
            zero.owned &= ~ofBoth;
        }
    }

    /** The disks' keys and blocks; a block of a disk that is lost is always missing. */
    private static final class Disks {
        final boolean[] there = new boolean[DISKS];
        final int[] keys = new int[DISKS];
        final int[] blocks = new int[DISKS * STRIPES];
        final boolean[] missing = new boolean[DISKS * STRIPES];

        Disks() {
            for (int disk = 0; disk < DISKS; disk++) {
                there[disk] = true;
                keys[disk] = 1;
            }
        }

        boolean isMissing(int disk, int stripe) {
            return missing[disk * STRIPES + stripe];
        }

        int blockOn(int disk, int stripe) {
            return blocks[disk * STRIPES + stripe];
        }

        void put(int disk, int stripe, int value) {
            blocks[disk * STRIPES + stripe] = value;
            missing[disk * STRIPES + stripe] = false;
        }

        void remove(int disk) {
            there[disk] = false;
            for (int stripe = 0; stripe < STRIPES; stripe++) {
                missing[disk * STRIPES + stripe] = true;
            }
        }

        void insert(int disk) {
            keys[disk] = greatestKey();
            there[disk] = true;
        }

        int greatestKey() {
            int greatest = 0;
            for (int disk = 0; disk < DISKS; disk++) {
                if (there[disk]) {
                    greatest = Math.max(greatest, keys[disk]);
                }
            }
            return greatest;
        }

        int withOtherKeyThan(int key) {
            int others = 0;
            for (int disk = 0; disk < DISKS; disk++) {
                if (there[disk] && keys[disk] != key) {
                    others++;
                }
            }
            return others;
        }

        int firstThereFrom(int from) {
            for (int disk = from; disk < DISKS; disk++) {
                if (there[disk]) {
                    return disk;
                }
            }
            return NONE;
        }

        int lowestMissing(int disk) {
            for (int stripe = 0; stripe < STRIPES; stripe++) {
                if (isMissing(disk, stripe)) {
                    return stripe;
                }
            }
            return NONE;
        }

        boolean isOtherMissing(int disk, int stripe) {
            for (int other = 0; other < DISKS; other++) {
                if (other != disk && isMissing(other, stripe)) {
                    return true;
                }
            }
            return false;
        }

        boolean isAnyMissing(int stripe) {
            return isMissing(0, stripe) || isOtherMissing(0, stripe);
        }

        int xorOfOthers(int disk, int stripe) {
            int xor = 0;
            for (int other = 0; other < DISKS; other++) {
                if (other != disk) {
                    xor ^= blockOn(other, stripe);
                }
            }
            return xor;
        }

        boolean isDataLost(int block) {
            int stripe = block / DATA_OF_STRIPE;
            int disk = dataDisk(stripe, block % DATA_OF_STRIPE);
            return isMissing(disk, stripe) && isOtherMissing(disk, stripe);
        }

        int dataOf(int block) {
            int stripe = block / DATA_OF_STRIPE;
            int disk = dataDisk(stripe, block % DATA_OF_STRIPE);
            return isMissing(disk, stripe) ? xorOfOthers(disk, stripe) : blockOn(disk, stripe);
        }
    }

    /** A controller's disk write; it keeps the key that the controller had when it began, as taking over changes that. */
    private static final class DiskWrite {
        boolean underWay = false;
        int disk = 0;
        int stripe = 0;
        int value = 0;
        int key = 0;

        void begin(int itsDisk, int itsStripe, int itsValue, int itsKey) {
            underWay = true;
            disk = itsDisk;
            stripe = itsStripe;
            value = itsValue;
            key = itsKey;
        }
    }

    /**
     * The writes that controllers had under way when they went down. Each has the key it began with: a controller that
     * has begun to take over since may have the number that its partner then puts on the disks.
     */
    private static final class LateWrites {
        final int[] disks = new int[MOST_LATES];
        final int[] stripes = new int[MOST_LATES];
        final int[] values = new int[MOST_LATES];
        final int[] keys = new int[MOST_LATES];
        int count = 0;

        boolean has(int k) {
            return k >= 0 && k < count;
        }

        void add(DiskWrite w) {
            if (count < MOST_LATES) {
                disks[count] = w.disk;
                stripes[count] = w.stripe;
                values[count] = w.value;
                keys[count] = w.key;
                count++;
            }
        }

        void remove(int k) {
            count--;
            for (int i = k; i < count; i++) {
                disks[i] = disks[i + 1];
                stripes[i] = stripes[i + 1];
                values[i] = values[i + 1];
                keys[i] = keys[i + 1];
            }
        }
    }

    /** All tickets; only writes are ever open, so only theirs tell controller, block and version. */
    private static final class Tickets {
        final int[] states = new int[MOST_TICKETS];
        final int[] values = new int[MOST_TICKETS];
        final int[] controllers = new int[MOST_TICKETS];
        final int[] blocks = new int[MOST_TICKETS];
        final int[] versions = new int[MOST_TICKETS];
        int count = 0;

        boolean areFull() {
            return count >= MOST_TICKETS;
        }

        boolean has(int t) {
            return t >= 0 && t < count;
        }

        int add(int ticketState, int ticketValue) {
            states[count] = ticketState;
            values[count] = ticketValue;
            count++;
            return count - 1;
        }

        int addOpenWrite(int controller, int block, int version, int written) {
            int t = add(OPEN, written);
            controllers[t] = controller;
            blocks[t] = block;
            versions[t] = version;
            return t;
        }

        void finish(int t) {
            if (has(t) && states[t] == OPEN) {
                states[t] = DONE;
            }
        }

        void finishWrites(int controller, int block, int lastVersion) {
            for (int t = 0; t < count; t++) {
                if (controllers[t] == controller && blocks[t] == block && versions[t] <= lastVersion) {
                    finish(t);
                }
            }
        }

        void refuseOpen(int controller) {
            for (int t = 0; t < count; t++) {
                if (states[t] == OPEN && controllers[t] == controller) {
                    states[t] = REFUSED;
                }
            }
        }
    }

    /** The messages on their way to one controller, a ring of slots; a place is a block or a stripe. */
    private static final class Inbox {
        final int[] kinds = new int[MOST_MESSAGES];
        final int[] places = new int[MOST_MESSAGES];
        final int[] values = new int[MOST_MESSAGES];
        final int[] versions = new int[MOST_MESSAGES];
        final int[] tickets = new int[MOST_MESSAGES];
        int first = 0;
        int count = 0;

        void add(int kind, int place, int messageValue, int version, int messageTicket) {
            if (count < MOST_MESSAGES) {
                int slot = (first + count) % MOST_MESSAGES;
                kinds[slot] = kind;
                places[slot] = place;
                values[slot] = messageValue;
                versions[slot] = version;
                tickets[slot] = messageTicket;
                count++;
            }
        }

        /** The slot stays as it is until the next message is added here. */
        int takeFirst() {
            int slot = first;
            first = (first + 1) % MOST_MESSAGES;
            count--;
            return slot;
        }

        void empty() {
            count = 0;
        }
    }

    /** A controller's cache, or its mirror (where no entry is ever dirty). */
    private static final class Entries {
        final boolean[] held = new boolean[BLOCKS];
        final boolean[] dirty = new boolean[BLOCKS];
        final int[] values = new int[BLOCKS];
        final int[] versions = new int[BLOCKS];

        void put(int block, int entryValue, int version, boolean isDirty) {
            held[block] = true;
            dirty[block] = isDirty;
            values[block] = entryValue;
            versions[block] = version;
        }

        void putIfNewer(int block, int entryValue, int version) {
            if (!held[block] || versions[block] < version) {
                put(block, entryValue, version, false);
            }
        }

        void drop(int block) {
            held[block] = false;
            dirty[block] = false;
        }

        void dropVersion(int block, int version) {
            if (held[block] && versions[block] == version) {
                drop(block);
            }
        }

        void dropVolume(int volume) {
            for (int i = 0; i < BLOCKS_OF_VOLUME; i++) {
                drop(volume * BLOCKS_OF_VOLUME + i);
            }
        }

        void dropAll() {
            for (int block = 0; block < BLOCKS; block++) {
                drop(block);
            }
        }

        boolean holdsOfVolume(int volume) {
            for (int i = 0; i < BLOCKS_OF_VOLUME; i++) {
                if (held[volume * BLOCKS_OF_VOLUME + i]) {
                    return true;
                }
            }
            return false;
        }

        int countHeld() {
            int count = 0;
            for (int block = 0; block < BLOCKS; block++) {
                count += held[block] ? 1 : 0;
            }
            return count;
        }

        int countDirty() {
            int count = 0;
            for (int stripe = 0; stripe < STRIPES; stripe++) {
                count += countDirtyOfStripe(stripe);
            }
            return count;
        }

        int countDirtyOfStripe(int stripe) {
            int count = 0;
            for (int place = 0; place < DATA_OF_STRIPE; place++) {
                count += dirty[stripe * DATA_OF_STRIPE + place] ? 1 : 0;
            }
            return count;
        }

        int dirtiestStripe() {
            int best = 0;
            for (int stripe = 1; stripe < STRIPES; stripe++) {
                if (countDirtyOfStripe(stripe) > countDirtyOfStripe(best)) {
                    best = stripe;
                }
            }
            return best;
        }
    }

    /** What a controller has taken of the stripe that it destages, and how far it is. */
    private static final class Destage {
        final boolean[] wasDirty = new boolean[DATA_OF_STRIPE];
        final int[] values = new int[DATA_OF_STRIPE];
        final int[] versions = new int[DATA_OF_STRIPE];
        int stripe = NONE;
        int nextPlace = 0;
        boolean dataLost = false;
        boolean parityPassed = false;

        void begin(int newStripe) {
            stripe = newStripe;
            nextPlace = 0;
            dataLost = false;
            parityPassed = false;
            for (int place = 0; place < DATA_OF_STRIPE; place++) {
                wasDirty[place] = false;
                values[place] = 0;
            }
        }

        void takeDirty(int place, int dirtyValue, int version) {
            wasDirty[place] = true;
            values[place] = dirtyValue;
            versions[place] = version;
        }

        int xorOfData() {
            int xor = 0;
            for (int place = 0; place < DATA_OF_STRIPE; place++) {
                xor ^= values[place];
            }
            return xor;
        }
    }

    /** A controller's own state; volumes owned, notes, remarks and repairs are bits. */
    private static final class Controller {
        final int number;
        final Entries cache = new Entries();
        final Entries mirror = new Entries();
        final Inbox inbox = new Inbox();
        final Destage destage = new Destage();
        final DiskWrite write = new DiskWrite();
        boolean up = true;
        boolean paired = true;
        boolean takingOver = false;
        boolean toFlush = false;
        int key = 1;
        int owned;
        int notes = 0;
        int remarks = 0;
        int repairs = 0;
        int missedBeats = 0;
        int versionsGiven = 0;
        int nextDisk = 0;
        int disksTaken = 0;

        Controller(int itsNumber) {
            number = itsNumber;
            owned = 1 << itsNumber;
        }

        boolean owns(int volume) {
            return isIn(owned, volume);
        }

        boolean serves(int block) {
            return up && owns(block / BLOCKS_OF_VOLUME);
        }

        int newVersion() {
            versionsGiven++;
            return versionsGiven;
        }

        boolean isReadyToPair() {
            return up && !takingOver && destage.stripe == NONE && cache.countDirty() == 0
                && notes == 0 && !write.underWay;
        }

        void beginPaired(int commonKey) {
            paired = true;
            key = commonKey;
            cache.dropAll();
            mirror.dropAll();
            inbox.empty();
            remarks = 0;
            missedBeats = 0;
        }

        boolean isBusyIn(int volume) {
            for (int i = 0; i < STRIPES_OF_VOLUME; i++) {
                int stripe = volume * STRIPES_OF_VOLUME + i;
                if (isIn(notes, stripe) || destage.stripe == stripe || cache.countDirtyOfStripe(stripe) > 0) {
                    return true;
                }
            }
            return false;
        }

        void finishTakingOver() {
            owned = BOTH_VOLUMES;
            for (int block = 0; block < BLOCKS; block++) {
                if (mirror.held[block]) {
                    cache.put(block, mirror.values[block], newVersion(), true);
                    mirror.drop(block);
                }
            }
            notes |= remarks;
            repairs |= remarks;
            remarks = 0;
            takingOver = false;
        }

        void forgetAllButKey() {
            up = false;
            paired = false;
            takingOver = false;
            toFlush = false;
            owned = 0;
            notes = 0;
            remarks = 0;
            repairs = 0;
            missedBeats = 0;
            versionsGiven = 0;
            cache.dropAll();
            mirror.dropAll();
            destage.stripe = NONE;
            write.underWay = false;
        }
    }
}
