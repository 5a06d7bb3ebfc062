import java.util.ArrayList;
import java.util.Arrays;
import java.util.LinkedHashMap;
import java.util.List;
import java.util.Map;

/**
 * The document once more, written for plainness and not for the rules of LANGUAGE.md, so that chance
 * runs have something to be compared with. It shares no code with the program.
 */
final class PlainServo {
    private record Frame(int identifier, int length, long data) {
    }

    private record Thing(int bytes, char kind, int start, long least, long greatest, boolean kept) {
    }

    private static final Map<String, Thing> THINGS = new LinkedHashMap<>();

    private static void thing(String name, int bytes, String kind, long... numbers) {
        boolean any = numbers.length < 3;
        long start = numbers.length > 0 ? numbers[0] : 0;
        THINGS.put(name, new Thing(bytes, kind.charAt(0), (int) start, any ? Integer.MIN_VALUE : numbers[1],
                any ? Integer.MAX_VALUE : numbers[2], kind.endsWith("*")));
    }

    static {
        thing("1001:0", 1, "r");
        thing("1010:1", 4, "w");
        thing("1011:1", 4, "w");
        thing("1016:1", 4, "b*", 0, 0, 8388607);
        thing("1017:0", 2, "b*", 0, 0, 65535);
        thing("1600:0", 1, "m*", 1, 0, 3);
        thing("1600:1", 4, "m*", 0x60400010);
        thing("1600:2", 4, "m*", 0);
        thing("1600:3", 4, "m*", 0);
        thing("1800:2", 1, "b*", 255, 0, 255);
        thing("1800:3", 2, "b*", 0, 0, 65535);
        thing("1800:5", 2, "b*", 0, 0, 65535);
        thing("1a00:0", 1, "m*", 1, 0, 3);
        thing("1a00:1", 4, "m*", 0x60410010);
        thing("1a00:2", 4, "m*", 0);
        thing("1a00:3", 4, "m*", 0);
        thing("6040:0", 2, "b", 0, 0, 65535);
        thing("6041:0", 2, "r");
        thing("6060:0", 1, "b*", 1, 1, 3);
        thing("6064:0", 4, "r");
        thing("6065:0", 4, "s*", 100000, 0, 100000);
        thing("606b:0", 4, "r");
        thing("607a:0", 4, "b", 0, -100000, 100000);
        thing("607d:1", 4, "s*", -100000, -100000, 100000);
        thing("607d:2", 4, "s*", 100000, -100000, 100000);
        thing("607f:0", 4, "s*", 1000, 1, 1000);
        thing("6081:0", 4, "b*", 100, 1, 1000);
        thing("6083:0", 4, "s*", 10, 1, 1000);
        thing("6085:0", 4, "s*", 50, 1, 1000);
        thing("60ff:0", 4, "b", 0, -1000, 1000);
    }

    private final int node;
    private final Map<String, Integer> held = new LinkedHashMap<>();
    private final List<Frame> mailbox = new ArrayList<>();
    private final int[][] banks = new int[2][22];
    private List<Integer> saving;
    private int savingInto;
    private int savedTicks;
    private int lost;
    private boolean busOn;
    private int network;
    private int power;
    private int errors;
    private int speed;
    private int place;
    private int sample;
    private boolean bitSeven;
    private int beats;
    private boolean armed;
    private int watched;
    private int syncs;
    private long now;
    private Long outAt;
    private Frame outLast;

    PlainServo(int node) {
        this.node = node < 1 || node > 127 ? 1 : node;
        restart();
    }

    void restart() {
        int bank = banks[0][0] >= banks[1][0] ? 0 : 1;
        int word = 1;
        for (Map.Entry<String, Thing> e : THINGS.entrySet()) {
            int value = e.getValue().start;
            if (e.getValue().kept) {
                if (banks[bank][0] != 0) {
                    value = banks[bank][word];
                }
                word++;
            }
            held.put(e.getKey(), value);
        }
        mailbox.clear();
        saving = null;
        network = 127;
        power = 1;
        errors = 0;
        speed = 0;
        place = sample;
        busOn = true;
        armed = false;
        bitSeven = false;
        beats = 0;
        watched = 0;
        syncs = 0;
        outAt = null;
        send(0x700 + node, 1, 0);
    }

    private static String name(int index, int sub) {
        return Integer.toHexString(index) + ":" + Integer.toHexString(sub);
    }

    private void send(int identifier, int length, long data) {
        if (!busOn || mailbox.size() == 12) {
            lost++;
        } else {
            mailbox.add(new Frame(identifier, length, data));
        }
    }

    private Frame next() {
        Frame best = null;
        for (Frame f : mailbox) {
            if (best == null || f.identifier < best.identifier) {
                best = f;
            }
        }
        return best;
    }

    int nextIdentifier() {
        return next() == null ? -1 : next().identifier;
    }

    int nextLength() {
        return next() == null ? -1 : next().length;
    }

    long nextData() {
        return next() == null ? 0 : next().data;
    }

    boolean take() {
        Frame first = next();
        for (int k = 0; k < mailbox.size(); k++) {
            if (mailbox.get(k) == first) {
                mailbox.remove(k);
                return true;
            }
        }
        return false;
    }

    int waiting() {
        return mailbox.size();
    }

    int lost() {
        return lost;
    }

    int network() {
        return network;
    }

    int power() {
        return power;
    }

    int speed() {
        return speed;
    }

    int position() {
        return place;
    }

    int word(int bank, int place) {
        return bank < 0 || bank > 1 || place < 0 || place > 21 ? 0 : banks[bank][place];
    }

    int object(int index, int sub) {
        Thing t = THINGS.get(name(index, sub));
        return t == null || t.kind == 'w' ? 0 : value(name(index, sub));
    }

    private int value(String name) {
        switch (name) {
            case "1001:0":
                return errors;
            case "6041:0":
                return status();
            case "6064:0":
                return sample;
            case "606b:0":
                return speed;
            default:
                return held.get(name);
        }
    }

    private int status() {
        int bits = List.of(0, 0x40, 0x21, 0x23, 0x27, 0x07, 0x0F, 0x08).get(power);
        if (network == 5) {
            bits += 0x200;
        }
        if (power == 4 && held.get("6060:0") == 1 && speed == 0 && place == aim()) {
            bits += 0x400;
        }
        return bits;
    }

    void bus(boolean on) {
        if (busOn && !on) {
            busOn = false;
            mailbox.clear();
            fault(0x8140);
        }
        busOn = on;
    }

    private void fault(int code) {
        if (power < 6) {
            power = power >= 4 ? 6 : 7;
            errors = code == 0x8611 ? 0x21 : 0x11;
            emergency(code);
        }
    }

    private void emergency(int code) {
        if (network != 4) {
            send(0x80 + node, 8, code + errors * 65536L);
        }
    }

    int receive(int identifier, int length, long data) {
        if (identifier < 0 || identifier > 2047 || length < 0 || length > 8) {
            return -1;
        }
        int[] bytes = new int[8];
        for (int k = 0; k < length; k++) {
            bytes[k] = (int) (data >> 8 * k & 255);
        }
        if (!busOn) {
            return 0;
        }
        if (identifier == 0 && length == 2 && (bytes[1] == 0 || bytes[1] == node)) {
            return networkFrame(bytes[0]);
        }
        if (identifier == 0x80 && network == 5) {
            sync();
            return 2;
        }
        if (identifier == 0x200 + node && network == 5) {
            return in(bytes, length);
        }
        if (identifier == 0x600 + node && length == 8 && network != 4) {
            channel(bytes);
            return 4;
        }
        int watch = held.get("1016:1");
        boolean watchedNode = watch / 65536 >= 1 && identifier == 0x700 + watch / 65536;
        if (watchedNode && length == 1 && watch % 65536 != 0) {
            armed = true;
            watched = 0;
            return 5;
        }
        return 0;
    }

    private int networkFrame(int command) {
        if (command == 129) {
            restart();
            return 1;
        }
        int to = command == 1 ? 5 : command == 2 ? 4 : command == 128 ? 127 : 0;
        if (to == 0) {
            return 0;
        }
        if (to == 5 && network != 5) {
            outAt = null;
        }
        network = to;
        return 1;
    }

    private void sync() {
        int type = held.get("1800:2");
        if (type >= 1 && type <= 240) {
            syncs++;
            if (syncs >= type) {
                syncs = 0;
                sendOut();
            }
        }
    }

    private List<String> mapped(String index) {
        List<String> names = new ArrayList<>();
        for (int k = 1; k <= held.get(index + ":0"); k++) {
            int entry = held.get(index + ":" + k);
            names.add(name(entry >>> 16, entry >>> 8 & 255));
        }
        return names;
    }

    private int in(int[] bytes, int length) {
        int total = 0;
        for (String name : mapped("1600")) {
            total += THINGS.get(name).bytes;
        }
        if (total == 0 || length < total) {
            return 0;
        }
        int at = 0;
        for (String name : mapped("1600")) {
            int size = THINGS.get(name).bytes;
            int value = number(Arrays.copyOfRange(bytes, at, at + size));
            if (rangeCode(name, value) == 0) {
                held.put(name, value);
            }
            at += size;
        }
        return 3;
    }

    private static int number(int[] bytes) {
        int value = 0;
        for (int k = bytes.length - 1; k >= 0; k--) {
            value = value * 256 + bytes[k];
        }
        return value;
    }

    private static int rangeCode(String name, int value) {
        Thing t = THINGS.get(name);
        if (value > t.greatest) {
            return 0x06090031;
        }
        if (value < t.least) {
            return 0x06090032;
        }
        return name.equals("6060:0") && value == 2 ? 0x06090030 : 0;
    }

    private void channel(int[] bytes) {
        if (bytes[0] == 0x80) {
            return;
        }
        int index = bytes[1] + 256 * bytes[2];
        String name = name(index, bytes[3]);
        int size = List.of(0x2F, 0x2B, 0x27, 0x23).indexOf(bytes[0]) + 1;
        int value = number(Arrays.copyOfRange(bytes, 4, 4 + size));
        int code = code(bytes[0], index, name, size, value);
        int first = 0x80;
        int last = code;
        if (code == 0 && bytes[0] == 0x40) {
            first = List.of(0, 0x4F, 0x4B, 0, 0x43).get(THINGS.get(name).bytes);
            last = value(name);
        } else if (code == 0) {
            first = 0x60;
            write(name, value);
        }
        send(0x580 + node, 8, first + 256L * bytes[1] + 65536L * bytes[2] + 16777216L * bytes[3] + ((long) last << 32));
    }

    private int code(int command, int index, String name, int size, int value) {
        if (command != 0x40 && size == 0) {
            return 0x05040001;
        }
        if (THINGS.keySet().stream().noneMatch(n -> n.startsWith(Integer.toHexString(index) + ":"))) {
            return 0x06020000;
        }
        Thing t = THINGS.get(name);
        if (t == null) {
            return 0x06090011;
        }
        if (command == 0x40) {
            return t.kind == 'w' ? 0x06010001 : 0;
        }
        if (t.kind == 'r') {
            return 0x06010002;
        }
        if (size != t.bytes) {
            return 0x06070010;
        }
        boolean entry = t.kind == 'm' && !name.endsWith(":0");
        if (t.kind == 's' && stageOn() || t.kind == 'm' && network != 127
                || entry && held.get(name.substring(0, 4) + ":0") != 0) {
            return 0x08000022;
        }
        if (t.kind == 'w') {
            int sign = index == 0x1010 ? 0x65766173 : 0x64616F6C;
            return value != sign ? 0x08000020 : saving != null ? 0x08000022 : 0;
        }
        int range = rangeCode(name, value);
        return range == 0 && t.kind == 'm' && !entry ? countCode(name.substring(0, 4), value) : range;
    }

    private int countCode(String index, int count) {
        int total = 0;
        for (int k = 1; k <= count; k++) {
            int entry = held.get(index + ":" + k);
            String found = null;
            for (Map.Entry<String, Thing> e : THINGS.entrySet()) {
                int at = Integer.parseInt(e.getKey().substring(0, 4), 16);
                int sub = Integer.parseInt(e.getKey().substring(5), 16);
                boolean kind = (index.equals("1600") ? "b" : "rbs").indexOf(e.getValue().kind) >= 0;
                if (at >= 0x6000 && kind && at * 65536 + sub * 256 + 8 * e.getValue().bytes == entry) {
                    found = e.getKey();
                }
            }
            if (found == null) {
                return 0x06040041;
            }
            total += THINGS.get(found).bytes;
            if (total > 8) {
                return 0x06040042;
            }
        }
        return 0;
    }

    private void write(String name, int value) {
        switch (name) {
            case "1010:1":
            case "1011:1":
                saving = new ArrayList<>();
                THINGS.forEach((n, t) -> {
                    if (t.kept) {
                        saving.add(name.equals("1010:1") ? held.get(n) : Integer.valueOf(t.start));
                    }
                });
                savingInto = banks[0][0] <= banks[1][0] ? 0 : 1;
                savedTicks = 0;
                return;
            case "1016:1":
                armed = false;
                break;
            case "1017:0":
                beats = 0;
                break;
            case "1800:2":
                syncs = 0;
                break;
            default:
                break;
        }
        held.put(name, value);
    }

    private boolean stageOn() {
        return power == 4 || power == 5 || power == 6;
    }

    boolean tick(int given) {
        if (Math.abs((long) given) > 1000000) {
            return false;
        }
        now++;
        sample = given;
        if (!stageOn()) {
            place = given;
        }
        goOnSaving();
        beats++;
        if (held.get("1017:0") > 0 && beats >= held.get("1017:0")) {
            beats = 0;
            send(0x700 + node, 1, network);
        }
        if (armed) {
            watched++;
            if (watched == held.get("1016:1") % 65536) {
                armed = false;
                fault(0x8130);
            }
        }
        if (power == 4 && Math.abs(sample - place) > held.get("6065:0")) {
            fault(0x8611);
        }
        obey();
        if (power == 4) {
            trajectory();
        } else if (stageOn()) {
            speed = nearerToZero(speed, held.get("6085:0"));
        } else {
            speed = 0;
            place = sample;
        }
        place += speed;
        outAtTick();
        return true;
    }

    int run(int ticks) {
        if (ticks < 0 || ticks > 100) {
            return -1;
        }
        int on = 0;
        for (int k = 0; k < ticks; k++) {
            tick(place);
            on += stageOn() ? 1 : 0;
        }
        return on;
    }

    private void goOnSaving() {
        if (saving == null) {
            return;
        }
        savedTicks++;
        if (savedTicks == 1) {
            banks[savingInto][0] = 0;
        } else if (savedTicks <= 22) {
            banks[savingInto][savedTicks - 1] = saving.get(savedTicks - 2);
        } else {
            banks[savingInto][0] = banks[1 - savingInto][0] + 1;
            saving = null;
        }
    }

    private String order() {
        int control = held.get("6040:0");
        boolean before = bitSeven;
        bitSeven = control / 128 % 2 == 1;
        if (bitSeven) {
            return before ? "none" : "RESET";
        }
        if (control / 2 % 2 == 0) {
            return "OFF";
        }
        if (control / 4 % 2 == 0) {
            return "QUICK";
        }
        if (control % 2 == 0) {
            return "SHUT";
        }
        return control / 8 % 2 == 0 ? "ON" : "RUN";
    }

    private void obey() {
        String order = order();
        if (power == 5) {
            power = order.equals("OFF") || speed == 0 ? 1 : 5;
            return;
        }
        if (power == 6) {
            power = speed == 0 ? 7 : 6;
            return;
        }
        switch (power + order) {
            case "1SHUT":
            case "3SHUT":
            case "4SHUT":
                power = 2;
                break;
            case "2ON":
            case "2RUN":
            case "4ON":
                power = 3;
                break;
            case "2OFF":
            case "2QUICK":
            case "3OFF":
            case "3QUICK":
            case "4OFF":
                power = 1;
                break;
            case "3RUN":
                power = 4;
                break;
            case "4QUICK":
                power = 5;
                break;
            case "7RESET":
                power = 1;
                errors = 0;
                emergency(0);
                break;
            default:
                break;
        }
    }

    private static int nearerToZero(int speed, int by) {
        return Math.abs(speed) <= by ? 0 : speed > 0 ? speed - by : speed + by;
    }

    private int aim() {
        int u = held.get("60ff:0");
        int floor = held.get("607d:1");
        int ceiling = held.get("607d:2");
        if (held.get("6060:0") == 1) {
            int aim = held.get("607a:0");
            aim = aim > ceiling ? ceiling : aim;
            return aim < floor ? floor : aim;
        }
        return u == 0 ? place : u > 0 ? Math.max(place, ceiling) : Math.min(place, floor);
    }

    private void trajectory() {
        int aim = aim();
        int rate = held.get("6083:0");
        int limit = held.get("6060:0") == 1 ? held.get("6081:0") : Math.abs(held.get("60ff:0"));
        int cap = Math.min(limit, held.get("607f:0"));
        if (speed != 0 && (place == aim || speed > 0 != aim > place)) {
            speed = nearerToZero(speed, rate);
            return;
        }
        int size = Math.abs(speed);
        int w = Math.min(size + rate, cap);
        while (stoppingWay(w, Math.min(rate, held.get("6085:0"))) > Math.abs(aim - place)) {
            w--;
        }
        w = Math.max(w, size - rate);
        speed = aim > place ? w : -w;
    }

    private static int stoppingWay(int w, int d) {
        return w <= 0 ? 0 : w + stoppingWay(w - d, d);
    }

    private Frame out() {
        long data = 0;
        int at = 0;
        for (String name : mapped("1a00")) {
            for (int k = 0; k < THINGS.get(name).bytes; k++) {
                data += (long) (value(name) >> 8 * k & 255) << 8 * at;
                at++;
            }
        }
        return new Frame(0x180 + node, at, data);
    }

    private void sendOut() {
        if (held.get("1a00:0") > 0) {
            outLast = out();
            outAt = now;
            send(outLast.identifier, outLast.length, outLast.data);
        }
    }

    private void outAtTick() {
        if (network != 5 || held.get("1800:2") < 241) {
            return;
        }
        boolean due = outAt == null || !out().equals(outLast)
                || held.get("1800:5") > 0 && now - outAt >= held.get("1800:5");
        boolean kept = outAt != null && now - outAt < held.get("1800:3");
        if (due && !kept) {
            sendOut();
        }
    }
}
