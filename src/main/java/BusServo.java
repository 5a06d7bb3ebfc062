/**
 * A servo drive that is spoken to over a bus by short frames. DOC.md says what each call does; the
 * names below are its names.
 */
public final class BusServo {
    public static final int REFUSED = -1;

    private static final int PREPARING = 127;
    private static final int OPERATING = 5;
    private static final int STOPPED = 4;

    private static final int NOT_TAKEN = 0;
    private static final int TAKEN_AS_NETWORK = 1;
    private static final int TAKEN_AS_SYNC = 2;
    private static final int TAKEN_AS_IN = 3;
    private static final int TAKEN_AS_CHANNEL = 4;
    private static final int TAKEN_AS_HEARTBEAT = 5;

    private static final int GREATEST_IDENTIFIER = 2047;
    private static final int GREATEST_LENGTH = 8;
    private static final int GREATEST_NODE = 127;
    private static final int GREATEST_SAMPLE = 1000000;
    private static final int MOST_TICKS = 100;

    private static final int NETWORK_FRAME = 0;
    private static final int SYNC_FRAME = 0x80;
    private static final int EMERGENCY_BASE = 0x80;
    private static final int OUT_BASE = 0x180;
    private static final int IN_BASE = 0x200;
    private static final int ANSWER_BASE = 0x580;
    private static final int CHANNEL_BASE = 0x600;
    private static final int HEARTBEAT_BASE = 0x700;

    private static final int GREATEST_SYNC_TYPE = 240;

    private static final int FAULT_WATCH = 0x8130;
    private static final int FAULT_BUS = 0x8140;
    private static final int FAULT_WINDOW = 0x8611;

    private final int node;
    private final int[] values;
    private final Mailbox mailbox;
    private final Store store;
    private final Power power;
    private final Motion motion;
    private final Watch watch;
    private final OutRecord out;
    private int networkState;
    private int beatCount;

    public BusServo(int node) {
        this.node = node >= 1 && node <= GREATEST_NODE ? node : 1;
        int[] objects = new int[Catalog.SIZE];
        this.values = objects;
        this.mailbox = new Mailbox();
        this.store = new Store();
        this.power = new Power();
        this.motion = new Motion(objects);
        this.watch = new Watch();
        this.out = new OutRecord();
        comeUp();
    }

    public int receive(int identifier, int length, long data) {
        if (identifier < 0 || identifier > GREATEST_IDENTIFIER || length < 0 || length > GREATEST_LENGTH) {
            return REFUSED;
        }
        if (!mailbox.isBusOn()) {
            return NOT_TAKEN;
        }
        if (identifier == NETWORK_FRAME) {
            return acceptNetwork(length, data);
        }
        if (identifier == SYNC_FRAME) {
            return acceptSync();
        }
        if (identifier == IN_BASE + node) {
            return acceptIn(length, data);
        }
        if (identifier == CHANNEL_BASE + node) {
            return acceptChannel(length, data);
        }
        return acceptHeartbeat(identifier - HEARTBEAT_BASE, length);
    }

    public boolean tick(int sample) {
        if (sample < -GREATEST_SAMPLE || sample > GREATEST_SAMPLE) {
            return false;
        }
        makeTick(sample);
        return true;
    }

    public int run(int ticks) {
        if (ticks < 0 || ticks > MOST_TICKS) {
            return REFUSED;
        }
        int stageOn = 0;
        for (int made = 0; made < ticks; made++) {
            makeTick(motion.demanded());
            if (power.isStageOn()) {
                stageOn++;
            }
        }
        return stageOn;
    }

    public void bus(boolean on) {
        if (on == mailbox.isBusOn()) {
            return;
        }
        mailbox.setBus(on);
        if (!on) {
            mailbox.clear();
            fault(FAULT_BUS);
        }
    }

    public void restart() {
        comeUp();
    }

    public int nextIdentifier() {
        return mailbox.firstIdentifier();
    }

    public int nextLength() {
        return mailbox.firstLength();
    }

    public long nextData() {
        return mailbox.firstData();
    }

    public boolean take() {
        return mailbox.dropFirst();
    }

    public int waiting() {
        return mailbox.size();
    }

    public int lost() {
        return mailbox.lostFrames();
    }

    public int object(int index, int sub) {
        int slot = Catalog.find(index, sub);
        if (slot == Catalog.NONE || Catalog.kind(slot) == Catalog.ONLY_WRITTEN) {
            return 0;
        }
        refreshStatus();
        return values[slot];
    }

    public int network() {
        return networkState;
    }

    public int power() {
        return power.current();
    }

    public int speed() {
        return values[Catalog.SPEED];
    }

    public int position() {
        return motion.demanded();
    }

    public int word(int bank, int place) {
        return store.wordAt(bank, place);
    }

    private void comeUp() {
        int sample = values[Catalog.SAMPLE];
        store.giveUp();
        store.load(values);
        // the latest sample is the one thing measured that outlives the power
        values[Catalog.SAMPLE] = sample;
        motion.rest(sample);
        power.comeUp();
        watch.disarm();
        // what was sent as OUT is forgotten later, when OPERATING is entered
        out.forgetSyncs();
        networkState = PREPARING;
        beatCount = 0;
        mailbox.setBus(true);
        mailbox.clear();
        mailbox.send(HEARTBEAT_BASE + node, 1, 0L);
    }

    // ---- frames that come ----

    private int acceptNetwork(int length, long data) {
        int addressed = (int) (data >>> 8) & 0xFF;
        if (length != 2 || (addressed != 0 && addressed != node)) {
            return NOT_TAKEN;
        }
        switch ((int) data & 0xFF) {
            case 1:
                enterOperating();
                return TAKEN_AS_NETWORK;
            case 2:
                networkState = STOPPED;
                return TAKEN_AS_NETWORK;
            case 128:
                networkState = PREPARING;
                return TAKEN_AS_NETWORK;
            case 129:
                comeUp();
                return TAKEN_AS_NETWORK;
            default:
                return NOT_TAKEN;
        }
    }

    private void enterOperating() {
        if (networkState != OPERATING) {
            networkState = OPERATING;
            out.beginOperating();
        }
    }

    private int acceptSync() {
        if (networkState != OPERATING) {
            return NOT_TAKEN;
        }
        int type = values[Catalog.TYPE];
        if (type >= 1 && type <= GREATEST_SYNC_TYPE && out.countSync(type) && values[Catalog.COUNT_OUT] > 0) {
            refreshStatus();
            sendOut(Mapping.pack(values), Mapping.totalBytes(values, Catalog.COUNT_OUT));
        }
        return TAKEN_AS_SYNC;
    }

    private int acceptIn(int length, long data) {
        if (networkState != OPERATING || values[Catalog.COUNT_IN] == 0
                || length < Mapping.totalBytes(values, Catalog.COUNT_IN)) {
            return NOT_TAKEN;
        }
        Mapping.unpack(values, data);
        return TAKEN_AS_IN;
    }

    private int acceptHeartbeat(int from, int length) {
        int watched = values[Catalog.WATCH] >> 16;
        if (length != 1 || from < 1 || from != watched || watchTime() == 0) {
            return NOT_TAKEN;
        }
        watch.arm();
        return TAKEN_AS_HEARTBEAT;
    }

    private int watchTime() {
        return values[Catalog.WATCH] & 0xFFFF;
    }

    // ---- the channel ----

    private int acceptChannel(int length, long data) {
        if (length != 8 || networkState == STOPPED) {
            return NOT_TAKEN;
        }
        int command = (int) data & 0xFF;
        if (command == Channel.ABORT) {
            return TAKEN_AS_CHANNEL;
        }
        int index = (int) (data >>> 8) & 0xFFFF;
        int sub = (int) (data >>> 24) & 0xFF;
        int slot = Catalog.find(index, sub);
        int code = Channel.refusalOfAddress(command, index, slot);
        if (code != Channel.DONE || slot == Catalog.NONE) {
            sendAnswer(data, Channel.ABORT, code);
        } else if (command == Channel.READ) {
            answerRead(data, slot);
        } else {
            answerWrite(data, slot, Channel.bytesWritten(command));
        }
        return TAKEN_AS_CHANNEL;
    }

    private void answerRead(long data, int slot) {
        if (Catalog.kind(slot) == Catalog.ONLY_WRITTEN) {
            sendAnswer(data, Channel.ABORT, Channel.NOT_READ);
            return;
        }
        refreshStatus();
        sendAnswer(data, Channel.readAnswer(Catalog.bytes(slot)), values[slot]);
    }

    private void answerWrite(long data, int slot, int bytes) {
        int value = Mapping.number(data >>> 32, bytes);
        int code = refusalOfWrite(slot, bytes, value);
        if (code == Channel.DONE && Catalog.isCount(slot)) {
            code = Mapping.refusalOfCount(values, slot, value);
        }
        if (code != Channel.DONE) {
            sendAnswer(data, Channel.ABORT, code);
            return;
        }
        write(slot, value);
        sendAnswer(data, Channel.WRITTEN, 0);
    }

    private void sendAnswer(long data, int command, int value) {
        mailbox.send(ANSWER_BASE + node, 8, command | (data & 0xFFFFFF00L) | ((long) value << 32));
    }

    private int refusalOfWrite(int slot, int bytes, int value) {
        if (Catalog.kind(slot) == Catalog.ONLY_READ) {
            return Channel.NOT_WRITTEN;
        }
        if (bytes != Catalog.bytes(slot)) {
            return Channel.WRONG_SIZE;
        }
        if (!isWrittenNow(slot)) {
            return Channel.WRONG_STATE;
        }
        if (slot == Catalog.SAVE) {
            return refusalOfSave(value, Channel.SAVE_SIGN);
        }
        if (slot == Catalog.RESTORE) {
            return refusalOfSave(value, Channel.RESTORE_SIGN);
        }
        return Channel.refusalOfValue(slot, value);
    }

    private boolean isWrittenNow(int slot) {
        switch (Catalog.kind(slot)) {
            case Catalog.STAGE_OFF:
                return !power.isStageOn();
            case Catalog.MAPPING:
                return networkState == PREPARING
                        && (Catalog.isCount(slot) || values[Catalog.countOf(slot)] == 0);
            default:
                return true;
        }
    }

    private int refusalOfSave(int value, int sign) {
        if (value != sign) {
            return Channel.WRONG_SIGN;
        }
        return store.isBusy() ? Channel.WRONG_STATE : Channel.DONE;
    }

    private void write(int slot, int value) {
        switch (slot) {
            case Catalog.SAVE:
                store.beginSave(values);
                return;
            case Catalog.RESTORE:
                store.beginRestore();
                return;
            case Catalog.WATCH:
                watch.disarm();
                break;
            case Catalog.BEAT:
                beatCount = 0;
                break;
            case Catalog.TYPE:
                out.forgetSyncs();
                break;
            default:
                break;
        }
        values[slot] = value;
    }

    // ---- a tick ----

    private void makeTick(int sample) {
        values[Catalog.SAMPLE] = sample;
        if (!power.isStageOn()) {
            motion.rest(sample);
        }
        store.goOn();
        beat();
        if (watch.runsOut(watchTime())) {
            fault(FAULT_WATCH);
        }
        if (power.isEnabled() && Math.abs(sample - motion.demanded()) > values[Catalog.WINDOW]) {
            fault(FAULT_WINDOW);
        }
        obeyControl();
        move(sample);
        out.countTick();
        sendOutWhenDue();
    }

    private void beat() {
        beatCount++;
        int every = values[Catalog.BEAT];
        if (every > 0 && beatCount >= every) {
            beatCount = 0;
            mailbox.send(HEARTBEAT_BASE + node, 1, networkState);
        }
    }

    private void obeyControl() {
        int order = power.orderOf(values[Catalog.CONTROL]);
        if (power.obey(order, values[Catalog.SPEED] == 0)) {
            values[Catalog.ERRORS] = 0;
            sendEmergency(0);
        }
    }

    private void move(int sample) {
        if (power.isEnabled()) {
            motion.follow();
        } else if (power.isStageOn()) {
            motion.brake();
        } else {
            motion.rest(sample);
        }
    }

    private void sendOutWhenDue() {
        if (networkState != OPERATING || values[Catalog.TYPE] <= GREATEST_SYNC_TYPE
                || values[Catalog.COUNT_OUT] == 0 || out.isHeld(values[Catalog.INHIBIT])) {
            return;
        }
        refreshStatus();
        long data = Mapping.pack(values);
        int length = Mapping.totalBytes(values, Catalog.COUNT_OUT);
        if (out.isDue(data, length, values[Catalog.EVERY])) {
            sendOut(data, length);
        }
    }

    private void sendOut(long data, int length) {
        out.noteSent(data, length);
        mailbox.send(OUT_BASE + node, length, data);
    }

    // ---- faults and the status ----

    private void fault(int code) {
        if (!power.fail()) {
            return;
        }
        values[Catalog.ERRORS] = code == FAULT_WINDOW ? 0x21 : 0x11;
        sendEmergency(code);
    }

    private void sendEmergency(int code) {
        if (networkState != STOPPED) {
            mailbox.send(EMERGENCY_BASE + node, 8, code | ((long) values[Catalog.ERRORS] << 16));
        }
    }

    /** STATUS follows from other things, so it is worked out before anything reads the objects. */
    private void refreshStatus() {
        int status = power.statusBits();
        if (networkState == OPERATING) {
            status |= 0x200;
        }
        if (power.isEnabled() && motion.isArrived()) {
            status |= 0x400;
        }
        values[Catalog.STATUS] = status;
    }

    /** What is fixed about the objects: each has a slot, in the order of the document. */
    private static final class Catalog {
        static final int NONE = -1;

        static final int ERRORS = 0;
        static final int SAVE = 1;
        static final int RESTORE = 2;
        static final int WATCH = 3;
        static final int BEAT = 4;
        static final int COUNT_IN = 5;
        static final int TYPE = 9;
        static final int INHIBIT = 10;
        static final int EVERY = 11;
        static final int COUNT_OUT = 12;
        static final int CONTROL = 16;
        static final int STATUS = 17;
        static final int MODE = 18;
        static final int SAMPLE = 19;
        static final int WINDOW = 20;
        static final int SPEED = 21;
        static final int TARGET = 22;
        static final int FLOOR = 23;
        static final int CEILING = 24;
        static final int TOP = 25;
        static final int PROFILE = 26;
        static final int RATE = 27;
        static final int QUICK = 28;
        static final int TARGET_SPEED = 29;
        static final int SIZE = 30;

        static final int ONLY_READ = 0;
        static final int ONLY_WRITTEN = 1;
        static final int BOTH = 2;
        static final int STAGE_OFF = 3;
        static final int MAPPING = 4;

        private static final int LEAST_INT = 0x80000000;
        private static final int GREATEST_INT = 0x7FFFFFFF;

        private static final int COLUMNS = 6;
        /** Each row: index and sub as index * 256 + sub, bytes, kind, START, least, greatest. */
        private static final int[] TABLE = {
            0x100100, 1, ONLY_READ, 0, 0, 255,
            0x101001, 4, ONLY_WRITTEN, 0, LEAST_INT, GREATEST_INT,
            0x101101, 4, ONLY_WRITTEN, 0, LEAST_INT, GREATEST_INT,
            0x101601, 4, BOTH, 0, 0, 8388607,
            0x101700, 2, BOTH, 0, 0, 65535,
            0x160000, 1, MAPPING, 1, 0, 3,
            0x160001, 4, MAPPING, 0x60400010, LEAST_INT, GREATEST_INT,
            0x160002, 4, MAPPING, 0, LEAST_INT, GREATEST_INT,
            0x160003, 4, MAPPING, 0, LEAST_INT, GREATEST_INT,
            0x180002, 1, BOTH, 255, 0, 255,
            0x180003, 2, BOTH, 0, 0, 65535,
            0x180005, 2, BOTH, 0, 0, 65535,
            0x1A0000, 1, MAPPING, 1, 0, 3,
            0x1A0001, 4, MAPPING, 0x60410010, LEAST_INT, GREATEST_INT,
            0x1A0002, 4, MAPPING, 0, LEAST_INT, GREATEST_INT,
            0x1A0003, 4, MAPPING, 0, LEAST_INT, GREATEST_INT,
            0x604000, 2, BOTH, 0, 0, 65535,
            0x604100, 2, ONLY_READ, 0, 0, 65535,
            0x606000, 1, BOTH, 1, 1, 3,
            0x606400, 4, ONLY_READ, 0, LEAST_INT, GREATEST_INT,
            0x606500, 4, STAGE_OFF, 100000, 0, 100000,
            0x606B00, 4, ONLY_READ, 0, LEAST_INT, GREATEST_INT,
            0x607A00, 4, BOTH, 0, -100000, 100000,
            0x607D01, 4, STAGE_OFF, -100000, -100000, 100000,
            0x607D02, 4, STAGE_OFF, 100000, -100000, 100000,
            0x607F00, 4, STAGE_OFF, 1000, 1, 1000,
            0x608100, 4, BOTH, 100, 1, 1000,
            0x608300, 4, STAGE_OFF, 10, 1, 1000,
            0x608500, 4, STAGE_OFF, 50, 1, 1000,
            0x60FF00, 4, BOTH, 0, -1000, 1000,
        };

        /** The slots of the KEPT objects: the one at k is word k + 1 of a bank. */
        private static final int[] KEPT = {
            WATCH, BEAT, COUNT_IN, COUNT_IN + 1, COUNT_IN + 2, COUNT_IN + 3, TYPE, INHIBIT, EVERY,
            COUNT_OUT, COUNT_OUT + 1, COUNT_OUT + 2, COUNT_OUT + 3, MODE, WINDOW, FLOOR, CEILING,
            TOP, PROFILE, RATE, QUICK,
        };
        static final int KEPT_SIZE = 21;

        private Catalog() {
        }

        static int find(int index, int sub) {
            // a sub beyond a byte would reach into the key of another index
            if (index < 0 || index > 0xFFFF || sub < 0 || sub > 0xFF) {
                return NONE;
            }
            int key = index * 256 + sub;
            for (int slot = 0; slot < SIZE; slot++) {
                if (TABLE[slot * COLUMNS] == key) {
                    return slot;
                }
            }
            return NONE;
        }

        static boolean hasIndex(int index) {
            for (int slot = 0; slot < SIZE; slot++) {
                if (TABLE[slot * COLUMNS] >> 8 == index) {
                    return true;
                }
            }
            return false;
        }

        static int bytes(int slot) {
            return TABLE[slot * COLUMNS + 1];
        }

        static int kind(int slot) {
            return TABLE[slot * COLUMNS + 2];
        }

        static int start(int slot) {
            return TABLE[slot * COLUMNS + 3];
        }

        static int least(int slot) {
            return TABLE[slot * COLUMNS + 4];
        }

        static int greatest(int slot) {
            return TABLE[slot * COLUMNS + 5];
        }

        static int kept(int number) {
            return KEPT[number];
        }

        static boolean isCount(int slot) {
            return slot == COUNT_IN || slot == COUNT_OUT;
        }

        /** The slot of sub 0 of the index that a mapping entry belongs to. */
        static int countOf(int entrySlot) {
            return entrySlot < COUNT_OUT ? COUNT_IN : COUNT_OUT;
        }
    }

    /** The commands and codes of the channel, and the checks that need no state. */
    private static final class Channel {
        static final int ABORT = 0x80;
        static final int READ = 0x40;
        static final int WRITTEN = 0x60;

        static final int SAVE_SIGN = 0x65766173;
        static final int RESTORE_SIGN = 0x64616F6C;

        static final int DONE = 0;
        static final int WRONG_COMMAND = 0x05040001;
        static final int NO_INDEX = 0x06020000;
        static final int NO_SUB = 0x06090011;
        static final int NOT_READ = 0x06010001;
        static final int NOT_WRITTEN = 0x06010002;
        static final int WRONG_SIZE = 0x06070010;
        static final int WRONG_STATE = 0x08000022;
        static final int WRONG_SIGN = 0x08000020;
        static final int TOO_GREAT = 0x06090031;
        static final int TOO_SMALL = 0x06090032;
        static final int WRONG_VALUE = 0x06090030;
        static final int NOT_MAPPED = 0x06040041;
        static final int TOO_LONG = 0x06040042;

        private Channel() {
        }

        /** How many bytes a command writes; 0 if it is none that writes. */
        static int bytesWritten(int command) {
            switch (command) {
                case 0x2F:
                    return 1;
                case 0x2B:
                    return 2;
                case 0x27:
                    return 3;
                case 0x23:
                    return 4;
                default:
                    return 0;
            }
        }

        static int readAnswer(int bytes) {
            if (bytes == 1) {
                return 0x4F;
            }
            return bytes == 2 ? 0x4B : 0x43;
        }

        static int refusalOfAddress(int command, int index, int slot) {
            if (command != READ && bytesWritten(command) == 0) {
                return WRONG_COMMAND;
            }
            if (slot != Catalog.NONE) {
                return DONE;
            }
            return Catalog.hasIndex(index) ? NO_SUB : NO_INDEX;
        }

        static int refusalOfValue(int slot, int value) {
            if (value > Catalog.greatest(slot)) {
                return TOO_GREAT;
            }
            if (value < Catalog.least(slot)) {
                return TOO_SMALL;
            }
            return slot == Catalog.MODE && value == 2 ? WRONG_VALUE : DONE;
        }
    }

    /** The objects that are mapped into process frames. */
    private static final class Mapping {
        private static final int FIRST_INDEX = 0x6000;
        private static final int MOST_BYTES = 8;

        private Mapping() {
        }

        /** The number that the lowest one to four bytes hold. */
        static int number(long data, int bytes) {
            return bytes >= 4 ? (int) data : (int) data & ((1 << (8 * bytes)) - 1);
        }

        static int refusalOfCount(int[] values, int countSlot, int count) {
            int total = 0;
            for (int k = 1; k <= count; k++) {
                int entry = values[countSlot + k];
                int slot = slotOf(entry);
                if (slot == Catalog.NONE || !isMappable(slot, countSlot)) {
                    return Channel.NOT_MAPPED;
                }
                total += Catalog.bytes(slot);
                if (total > MOST_BYTES) {
                    return Channel.TOO_LONG;
                }
            }
            return Channel.DONE;
        }

        /** The slot of the object that an entry names rightly, with its number of bits. */
        private static int slotOf(int entry) {
            int index = entry >>> 16;
            int slot = Catalog.find(index, entry >>> 8 & 0xFF);
            if (slot == Catalog.NONE || index < FIRST_INDEX || (entry & 0xFF) != 8 * Catalog.bytes(slot)) {
                return Catalog.NONE;
            }
            return slot;
        }

        private static boolean isMappable(int slot, int countSlot) {
            int kind = Catalog.kind(slot);
            if (countSlot == Catalog.COUNT_IN) {
                return kind == Catalog.BOTH;
            }
            return kind == Catalog.ONLY_READ || kind == Catalog.BOTH || kind == Catalog.STAGE_OFF;
        }

        static int totalBytes(int[] values, int countSlot) {
            int total = 0;
            int count = values[countSlot];
            for (int k = 1; k <= count; k++) {
                total += (values[countSlot + k] & 0xFF) / 8;
            }
            return total;
        }

        static long pack(int[] values) {
            long data = 0L;
            int shift = 0;
            int count = values[Catalog.COUNT_OUT];
            for (int k = 1; k <= count; k++) {
                int slot = slotOf(values[Catalog.COUNT_OUT + k]);
                if (slot != Catalog.NONE) {
                    data |= (values[slot] & 0xFFFFFFFFL) << shift;
                    shift += 8 * Catalog.bytes(slot);
                }
            }
            return data;
        }

        static void unpack(int[] values, long data) {
            long rest = data;
            // the loop writes objects, so its bound is taken before
            int count = values[Catalog.COUNT_IN];
            for (int k = 1; k <= count; k++) {
                int slot = slotOf(values[Catalog.COUNT_IN + k]);
                if (slot != Catalog.NONE) {
                    int value = number(rest, Catalog.bytes(slot));
                    if (Channel.refusalOfValue(slot, value) == Channel.DONE) {
                        values[slot] = value;
                    }
                    rest >>>= 8 * Catalog.bytes(slot);
                }
            }
        }
    }

    /** The frames that wait, the next one first, and the bus they wait for. */
    private static final class Mailbox {
        private static final int ROOM = 12;

        private final int[] identifiers = new int[ROOM];
        private final int[] lengths = new int[ROOM];
        private final long[] contents = new long[ROOM];
        private int count;
        private int lostCount;
        private boolean busOn;

        boolean isBusOn() {
            return busOn;
        }

        void setBus(boolean on) {
            busOn = on;
        }

        void clear() {
            count = 0;
        }

        int size() {
            return count;
        }

        int lostFrames() {
            return lostCount;
        }

        void send(int identifier, int length, long data) {
            if (!busOn || count >= ROOM) {
                lostCount++;
                return;
            }
            int place = count;
            // a frame goes behind its equals, so that of these the one sent first stays first
            while (place > 0 && identifiers[place - 1] > identifier) {
                identifiers[place] = identifiers[place - 1];
                lengths[place] = lengths[place - 1];
                contents[place] = contents[place - 1];
                place--;
            }
            identifiers[place] = identifier;
            lengths[place] = length;
            contents[place] = data;
            count++;
        }

        int firstIdentifier() {
            return count == 0 ? -1 : identifiers[0];
        }

        int firstLength() {
            return count == 0 ? -1 : lengths[0];
        }

        long firstData() {
            return count == 0 ? 0L : contents[0];
        }

        boolean dropFirst() {
            if (count == 0) {
                return false;
            }
            count--;
            for (int place = 0; place < count; place++) {
                identifiers[place] = identifiers[place + 1];
                lengths[place] = lengths[place + 1];
                contents[place] = contents[place + 1];
            }
            return true;
        }
    }

    /** The two banks, and the save that is under way. */
    private static final class Store {
        private static final int WORDS = Catalog.KEPT_SIZE + 1;
        private static final int NO_SAVE = -1;

        private final int[][] banks = new int[2][WORDS];
        private final int[] saved = new int[WORDS];
        private int into;
        /** Which word the next tick writes; WORDS stands for the serial at the end. */
        private int nextWord = NO_SAVE;

        int wordAt(int bank, int place) {
            if (bank < 0 || bank > 1 || place < 0 || place >= WORDS) {
                return 0;
            }
            return banks[bank][place];
        }

        boolean isBusy() {
            return nextWord != NO_SAVE;
        }

        void giveUp() {
            nextWord = NO_SAVE;
        }

        void beginSave(int[] values) {
            for (int word = 1; word < WORDS; word++) {
                saved[word] = values[Catalog.kept(word - 1)];
            }
            begin();
        }

        void beginRestore() {
            for (int word = 1; word < WORDS; word++) {
                saved[word] = Catalog.start(Catalog.kept(word - 1));
            }
            begin();
        }

        private void begin() {
            into = banks[1][0] < banks[0][0] ? 1 : 0;
            nextWord = 0;
        }

        void goOn() {
            if (nextWord == NO_SAVE) {
                return;
            }
            if (nextWord == WORDS) {
                banks[into][0] = banks[1 - into][0] + 1;
                nextWord = NO_SAVE;
                return;
            }
            // the serial is 0 until all words stand, so that a torn bank is never the one loaded
            banks[into][nextWord] = nextWord == 0 ? 0 : saved[nextWord];
            nextWord++;
        }

        /** Gives every object the value that it has when the power comes. */
        void load(int[] values) {
            for (int slot = 0; slot < Catalog.SIZE; slot++) {
                values[slot] = Catalog.start(slot);
            }
            int newer = banks[1][0] > banks[0][0] ? 1 : 0;
            if (banks[newer][0] == 0) {
                return;
            }
            for (int word = 1; word < WORDS; word++) {
                values[Catalog.kept(word - 1)] = banks[newer][word];
            }
        }
    }

    /** The power state and the orders that change it. */
    private static final class Power {
        private static final int DISABLED = 1;
        private static final int READY = 2;
        private static final int SWITCHED_ON = 3;
        private static final int ENABLED = 4;
        private static final int QUICK_STOP = 5;
        private static final int REACTING = 6;
        private static final int FAULTY = 7;

        private static final int NO_ORDER = 0;
        private static final int RESET = 1;
        private static final int OFF = 2;
        private static final int QUICK = 3;
        private static final int SHUT = 4;
        private static final int ON = 5;
        private static final int RUN = 6;

        /** By the state; there is no state 0. */
        private static final int[] STATUS_BITS = {0, 0x40, 0x21, 0x23, 0x27, 0x07, 0x0F, 0x08};

        private int state;
        private boolean resetBitBefore;

        void comeUp() {
            state = DISABLED;
            resetBitBefore = false;
        }

        int current() {
            return state;
        }

        int statusBits() {
            return STATUS_BITS[state];
        }

        boolean isEnabled() {
            return state == ENABLED;
        }

        boolean isStageOn() {
            return state == ENABLED || state == QUICK_STOP || state == REACTING;
        }

        /** Answers whether the fault changed anything. */
        boolean fail() {
            if (state == REACTING || state == FAULTY) {
                return false;
            }
            state = isStageOn() ? REACTING : FAULTY;
            return true;
        }

        /** The order of this tick; it remembers bit 7 for the next one. */
        int orderOf(int control) {
            boolean resetBit = (control & 0x80) != 0;
            boolean rises = resetBit && !resetBitBefore;
            resetBitBefore = resetBit;
            if (resetBit) {
                return rises ? RESET : NO_ORDER;
            }
            if ((control & 2) == 0) {
                return OFF;
            }
            if ((control & 4) == 0) {
                return QUICK;
            }
            if ((control & 1) == 0) {
                return SHUT;
            }
            return (control & 8) == 0 ? ON : RUN;
        }

        /** Answers whether the order ended a fault. */
        boolean obey(int order, boolean standing) {
            boolean wasFaulty = state == FAULTY;
            state = stateAfter(order, standing);
            return wasFaulty && state != FAULTY;
        }

        private int stateAfter(int order, boolean standing) {
            switch (state) {
                case DISABLED:
                    return order == SHUT ? READY : DISABLED;
                case READY:
                    return afterReady(order);
                case SWITCHED_ON:
                    return afterSwitchedOn(order);
                case ENABLED:
                    return afterEnabled(order);
                case QUICK_STOP:
                    return order == OFF || standing ? DISABLED : QUICK_STOP;
                case REACTING:
                    return standing ? FAULTY : REACTING;
                default:
                    return order == RESET ? DISABLED : FAULTY;
            }
        }

        private static int afterReady(int order) {
            if (order == ON || order == RUN) {
                return SWITCHED_ON;
            }
            return order == OFF || order == QUICK ? DISABLED : READY;
        }

        private static int afterSwitchedOn(int order) {
            switch (order) {
                case RUN:
                    return ENABLED;
                case SHUT:
                    return READY;
                case OFF:
                case QUICK:
                    return DISABLED;
                default:
                    return SWITCHED_ON;
            }
        }

        private static int afterEnabled(int order) {
            switch (order) {
                case ON:
                    return SWITCHED_ON;
                case SHUT:
                    return READY;
                case OFF:
                    return DISABLED;
                case QUICK:
                    return QUICK_STOP;
                default:
                    return ENABLED;
            }
        }
    }

    /** The trajectory: SPEED, which is an object, and P, the position that is demanded. */
    private static final class Motion {
        /** The highest power of two that is not over the greatest CAP. */
        private static final int FIRST_STRIDE = 512;

        private final int[] values;
        private int demand;

        Motion(int[] values) {
            this.values = values;
        }

        int demanded() {
            return demand;
        }

        boolean isArrived() {
            return values[Catalog.MODE] == 1 && values[Catalog.SPEED] == 0 && demand == positionAim();
        }

        void rest(int sample) {
            values[Catalog.SPEED] = 0;
            demand = sample;
        }

        void brake() {
            moveWith(slower(values[Catalog.SPEED], values[Catalog.QUICK]));
        }

        void follow() {
            if (values[Catalog.MODE] == 1) {
                approach(positionAim(), Math.min(values[Catalog.PROFILE], values[Catalog.TOP]));
            } else {
                int wanted = Math.abs(values[Catalog.TARGET_SPEED]);
                approach(speedAim(), Math.min(wanted, values[Catalog.TOP]));
            }
        }

        private int positionAim() {
            int below = Math.min(values[Catalog.TARGET], values[Catalog.CEILING]);
            return Math.max(below, values[Catalog.FLOOR]);
        }

        private int speedAim() {
            int wanted = values[Catalog.TARGET_SPEED];
            if (wanted == 0) {
                return demand;
            }
            return wanted > 0 ? Math.max(demand, values[Catalog.CEILING]) : Math.min(demand, values[Catalog.FLOOR]);
        }

        private void approach(int aim, int cap) {
            int speed = values[Catalog.SPEED];
            int rate = values[Catalog.RATE];
            int way = aim - demand;
            boolean leavesAim = speed > 0 && way <= 0 || speed < 0 && way >= 0;
            if (leavesAim) {
                moveWith(slower(speed, rate));
                return;
            }
            int size = Math.abs(speed);
            int most = Math.min(size + rate, cap);
            int fastest = fastestThatStops(most, Math.abs(way));
            int next = Math.max(fastest, size - rate);
            moveWith(way < 0 ? -next : next);
        }

        private void moveWith(int speed) {
            values[Catalog.SPEED] = speed;
            demand += speed;
        }

        private static int slower(int speed, int by) {
            return speed > 0 ? Math.max(speed - by, 0) : Math.min(speed + by, 0);
        }

        /** The stopping way grows with the speed, so the greatest one is found by halving strides. */
        private int fastestThatStops(int most, int distance) {
            int step = Math.max(1, Math.min(values[Catalog.RATE], values[Catalog.QUICK]));
            int found = 0;
            for (int stride = FIRST_STRIDE; stride > 0; stride /= 2) {
                int tried = found + stride;
                if (tried <= most && stoppingWay(tried, step) <= distance) {
                    found = tried;
                }
            }
            return found;
        }

        /** step is at least 1. */
        private static int stoppingWay(int speed, int step) {
            int terms = (speed + step - 1) / step;
            return terms * speed - step * (terms * (terms - 1) / 2);
        }
    }

    /** The watch over another node's heartbeats. */
    private static final class Watch {
        private boolean armed;
        private int count;

        void arm() {
            armed = true;
            count = 0;
        }

        void disarm() {
            armed = false;
        }

        /** One more tick; answers whether the time is over, and then the watch is disarmed. */
        boolean runsOut(int time) {
            if (!armed) {
                return false;
            }
            count++;
            if (count < time) {
                return false;
            }
            disarm();
            return true;
        }
    }

    /** What was sent as OUT last, and the count of SYNC frames towards the next one. */
    private static final class OutRecord {
        private boolean sent;
        private int ticksAgo;
        private long lastData;
        private int lastLength;
        private int syncs;

        void beginOperating() {
            sent = false;
        }

        void forgetSyncs() {
            syncs = 0;
        }

        /** Answers whether the count has reached the type, and then it begins anew. */
        boolean countSync(int type) {
            syncs++;
            if (syncs < type) {
                return false;
            }
            syncs = 0;
            return true;
        }

        void countTick() {
            ticksAgo++;
        }

        boolean isHeld(int inhibit) {
            return sent && ticksAgo < inhibit;
        }

        boolean isDue(long data, int length, int every) {
            return !sent || data != lastData || length != lastLength || every > 0 && ticksAgo >= every;
        }

        void noteSent(long data, int length) {
            sent = true;
            ticksAgo = 0;
            lastData = data;
            lastLength = length;
        }
    }
}
