import java.util.ArrayList;
import java.util.Arrays;
import java.util.HashSet;
import java.util.List;
import java.util.Set;

/**
 * Parts 3 and 4, MAPS and RUNS, written once more for tests: places are told by the thing that they lie in, not by
 * numbers, and a run that reads what is not set, or goes outside of a thing, is told: no taken program may do that.
 */
final class Going {
    /** What a run does that no program may do that was taken. */
    static final class Wrong extends RuntimeException {
        Wrong(String what) {
            super(what);
        }
    }

    /** Bytes that a program can reach; of a stack also which are set, and what stands whole in its parts. */
    private static final class Room {
        final byte[] bytes;
        final boolean[] set;
        final Thing[] whole;
        boolean alive = true;

        Room(byte[] bytes, boolean stack) {
            this.bytes = bytes;
            set = stack ? new boolean[bytes.length] : null;
            whole = stack ? new Thing[bytes.length / 8] : null;
        }
    }

    /** What a register holds: a number (no room, no map), a place in a room, a map. */
    private record Thing(Room room, int map, long n) {
        static Thing of(long n) {
            return new Thing(null, -1, n);
        }

        boolean isNumber() {
            return room == null && map < 0;
        }
    }

    private static final class Frame {
        final Thing[] regs = new Thing[11];
        int back;

        Frame() {
            regs[10] = new Thing(new Room(new byte[128], true), -1, 128);
        }
    }

    private static final class Entry {
        byte[] key;
        Room value;
    }

    private static final class Store {
        int kind;
        int key;
        int value;
        int most;
        Room[] row;
        final List<Entry> table = new ArrayList<>();
        /** Cells of entries that were removed in this run. */
        int removed = 0;
        int[] slots;
        final List<byte[]> finished = new ArrayList<>();
        final Set<Room> held = new HashSet<>();
    }

    private static final Room CONTEXT = new Room(new byte[0], false);

    private final Store[] maps = new Store[8];
    final long[][] code = new long[8][];
    final boolean[] taken = new boolean[8];
    byte[] packet = new byte[0];
    int mark = 0;
    int source = 0;
    long chance = 1;
    long result = 0;
    int tails = 0;
    long steps = 0;
    final List<Byte> trace = new ArrayList<>();

    private final List<Frame> frames = new ArrayList<>();
    private Room packetRoom;
    private int slot;
    private int at;
    private boolean over;
    private long w;

    void tell(int m, int kind, int key, int value, int most) {
        Store s = new Store();
        s.kind = kind;
        s.key = key;
        s.value = value;
        s.most = most;
        s.row = new Room[most];
        for (int i = 0; i < most && kind == 0; i++) {
            s.row[i] = new Room(new byte[value], false);
        }
        s.slots = new int[most];
        Arrays.fill(s.slots, -1);
        maps[m] = s;
    }

    void link(int m, int index, int to) {
        maps[m].slots[index] = to;
    }

    int put(int m, byte[] key, byte[] value, int flags) {
        int answer = update(maps[m], key, value, flags);
        maps[m].removed = 0;
        return answer;
    }

    private static int index(byte[] key) {
        return key[0] & 255 | (key[1] & 255) << 8 | (key[2] & 255) << 16 | key[3] << 24;
    }

    private static Entry find(Store s, byte[] key) {
        for (Entry e : s.table) {
            if (Arrays.equals(e.key, key)) {
                return e;
            }
        }
        return null;
    }

    /** The value of a key; null: it is not there. */
    private static Room value(Store s, byte[] key) {
        if (s.kind == 0) {
            int i = index(key);
            return i < 0 || i >= s.most ? null : s.row[i];
        }
        Entry e = find(s, key);
        return e == null ? null : e.value;
    }

    byte[] get(int m, byte[] key) {
        Room room = value(maps[m], key);
        return room == null ? null : room.bytes;
    }

    private static int update(Store s, byte[] key, byte[] value, long flags) {
        if (flags != 0 && flags != 1 && flags != 2) {
            return -22;
        }
        Room there = value(s, key);
        if (s.kind == 0 && there == null) {
            return -7;
        }
        if (there != null && flags == 1) {
            return -17;
        }
        if (there == null && flags == 2) {
            return -2;
        }
        if (there == null) {
            if (s.table.size() == s.most) {
                return -7;
            }
            if (s.table.size() + s.removed == 32) {
                return -12;
            }
            Entry e = new Entry();
            e.key = key;
            e.value = new Room(value, false);
            s.table.add(e);
            return 0;
        }
        System.arraycopy(value, 0, there.bytes, 0, value.length);
        return 0;
    }

    private static int remove(Store s, byte[] key) {
        if (s.kind == 0) {
            return -22;
        }
        Entry e = find(s, key);
        if (e == null) {
            return -2;
        }
        s.table.remove(e);
        s.removed++;
        return 0;
    }

    /** Key and value of each entry, one behind the other. */
    List<byte[]> entries(int m) {
        List<byte[]> all = new ArrayList<>();
        for (Entry e : maps[m].table) {
            byte[] both = Arrays.copyOf(e.key, e.key.length + e.value.bytes.length);
            System.arraycopy(e.value.bytes, 0, both, e.key.length, e.value.bytes.length);
            all.add(both);
        }
        return all;
    }

    List<byte[]> finished(int m) {
        return maps[m].finished;
    }

    /** How many steps a run has. */
    int run(int first) {
        long before = steps;
        tails = 0;
        over = false;
        packetRoom = new Room(packet, false);
        begin(first);
        while (!over) {
            step();
        }
        result = frames.get(0).regs[0].n;
        packet = packetRoom.bytes;
        for (Store s : maps) {
            if (s != null) {
                s.removed = 0;
                must(s.held.isEmpty(), "a record is held");
            }
        }
        return (int) (steps - before);
    }

    private void begin(int into) {
        slot = into;
        at = 0;
        frames.clear();
        frames.add(new Frame());
        top().regs[1] = new Thing(CONTEXT, -1, 0);
    }

    private static void must(boolean so, String otherwise) {
        if (!so) {
            throw new Wrong(otherwise);
        }
    }

    private Frame top() {
        return frames.get(frames.size() - 1);
    }

    private Thing get(int r) {
        Thing t = top().regs[r];
        must(t != null, "r" + r + " is unset");
        return t;
    }

    private long number(int r) {
        Thing t = get(r);
        must(t.isNumber(), "r" + r + " is no number");
        return t.n;
    }

    private void set(int r, Thing t) {
        must(r != 10, "r10 is changed");
        top().regs[r] = t;
    }

    private int op() {
        return (int) w & 255;
    }

    private int d() {
        return (int) (w >> 8) & 15;
    }

    private int s() {
        return (int) (w >> 12) & 15;
    }

    private int off() {
        return (short) (w >> 16);
    }

    private int imm() {
        return (int) (w >> 32);
    }

    private int size() {
        return op() / 8 % 4 == 0 ? 4 : op() / 8 % 4 == 1 ? 2 : op() / 8 % 4 == 2 ? 1 : 8;
    }

    private void step() {
        must(at >= 0 && at < code[slot].length, "no word there");
        w = code[slot][at];
        at++;
        steps++;
        switch (op() % 8) {
            case 0:
                set(d(), s() == 1 ? new Thing(null, imm(), 0) : Thing.of(w >>> 32 | code[slot][at] & 0xFFFFFFFF00000000L));
                at++;
                break;
            case 1:
                Thing t = load(get(s()), off(), size());
                set(d(), op() < 0x80 ? t : Thing.of(size() == 1 ? (byte) t.n : size() == 2 ? (short) t.n : (int) t.n));
                break;
            case 2:
                store(get(d()), off(), size(), Thing.of(imm()));
                break;
            case 3:
                if (op() < 0x80) {
                    store(get(d()), off(), size(), get(s()));
                } else {
                    exchange();
                }
                break;
            case 5:
            case 6:
                lead();
                break;
            default:
                operate();
                break;
        }
    }

    private Thing load(Thing p, long off, int n) {
        if (p.room == CONTEXT) {
            must(off == 0 || off == 4 || n == 4, "no such number");
            return off == 0 ? new Thing(packetRoom, -1, 0) : off == 4 ? new Thing(packetRoom, -1, packetRoom.bytes.length)
                    : Thing.of((off == 8 ? packetRoom.bytes.length : off == 12 ? mark : source) & 0xFFFFFFFFL);
        }
        long a = place(p, off, n);
        if (p.room.whole != null && n == 8 && a % 8 == 0 && p.room.whole[(int) a / 8] != null) {
            return p.room.whole[(int) a / 8];
        }
        return Thing.of(fetch(p, off, n));
    }

    /** Where a place is in its room; all n bytes must be there. */
    private static long place(Thing p, long off, long n) {
        must(p.room != null && p.room != CONTEXT && p.room.alive, "no place");
        long a = p.n + off;
        must(a >= 0 && a + n <= p.room.bytes.length, "outside");
        return a;
    }

    private static byte[] bytes(Thing p, long off, long n) {
        long a = place(p, off, n);
        for (long i = a; i < a + n && p.room.set != null; i++) {
            must(p.room.set[(int) i] && p.room.whole[(int) i / 8] == null, "bytes that are not set");
        }
        return Arrays.copyOfRange(p.room.bytes, (int) a, (int) (a + n));
    }

    private static long fetch(Thing p, long off, int n) {
        byte[] b = bytes(p, off, n);
        long x = 0;
        for (int i = 0; i < n; i++) {
            x += (b[i] & 255L) << 8 * i;
        }
        return x;
    }

    private static void putBytes(Thing p, long off, byte[] b) {
        int a = (int) place(p, off, b.length);
        for (int i = 0; i < b.length; i++) {
            if (p.room.set != null) {
                if (p.room.whole[(a + i) / 8] != null) {
                    p.room.whole[(a + i) / 8] = null;
                    Arrays.fill(p.room.set, (a + i) / 8 * 8, (a + i) / 8 * 8 + 8, false);
                }
                p.room.set[a + i] = true;
            }
            p.room.bytes[a + i] = b[i];
        }
    }

    private void store(Thing p, long off, int n, Thing t) {
        if (p.room == CONTEXT) {
            must(off == 12 && n == 4 && t.isNumber(), "no mark");
            mark = (int) t.n;
            return;
        }
        if (!t.isNumber()) {
            long a = place(p, off, n);
            must(p.room.whole != null && n == 8 && a % 8 == 0, "a place gets out");
            p.room.whole[(int) a / 8] = t;
            return;
        }
        byte[] b = new byte[n];
        for (int i = 0; i < n; i++) {
            b[i] = (byte) (t.n >>> 8 * i);
        }
        putBytes(p, off, b);
    }

    private void exchange() {
        int n = size();
        Thing p = get(d());
        long stood = fetch(p, off(), n);
        long x = number(s());
        if (imm() == 0xF1) {
            long lowest = n == 4 ? number(0) & 0xFFFFFFFFL : number(0);
            if (lowest == stood) {
                store(p, off(), n, Thing.of(x));
            }
            set(0, Thing.of(stood));
            return;
        }
        long y = imm() == 0xE1 ? x : imm() < 2 ? stood + x : imm() / 16 == 4 ? stood | x : imm() / 16 == 5 ? stood & x : stood ^ x;
        store(p, off(), n, Thing.of(y));
        if (imm() % 2 == 1) {
            set(s(), Thing.of(stood));
        }
    }

    private void operate() {
        int sign = op() >> 4;
        boolean wide = op() % 8 == 7;
        boolean side = op() % 16 >= 8 && sign != 13;
        Thing right = side ? get(s()) : Thing.of(imm());
        if (sign == 11 && wide && off() == 0) {
            set(d(), right);
            return;
        }
        Thing left = sign == 11 ? Thing.of(0) : get(d());
        if (!left.isNumber() || !right.isNumber()) {
            must(wide && sign <= 1 && (left.isNumber() || right.isNumber()), "places are no numbers");
            Thing p = left.isNumber() ? right : left;
            long by = left.isNumber() ? left.n : right.n;
            must(p.room != null && p.room != CONTEXT && (sign == 0 || p == left), "no such place");
            set(d(), new Thing(p.room, -1, sign == 0 ? p.n + by : p.n - by));
            return;
        }
        long z = wide || sign == 13 ? operate(sign, left.n, right.n) : halves(sign, (int) left.n, (int) right.n) & 0xFFFFFFFFL;
        set(d(), Thing.of(z));
    }

    private long operate(int sign, long x, long y) {
        switch (sign) {
            case 0:
                return x + y;
            case 1:
                return x - y;
            case 2:
                return x * y;
            case 3:
                return y == 0 ? 0 : off() == 1 ? x / y : Long.divideUnsigned(x, y);
            case 4:
                return x | y;
            case 5:
                return x & y;
            case 6:
                return x << (y & 63);
            case 7:
                return x >>> (y & 63);
            case 8:
                return 0 - x;
            case 9:
                return y == 0 ? x : off() == 1 ? x % y : Long.remainderUnsigned(x, y);
            case 10:
                return x ^ y;
            case 11:
                return off() == 8 ? (byte) y : off() == 16 ? (short) y : (int) y;
            case 12:
                return x >> (y & 63);
            default:
                long turned = op() == 0xD4 ? x : Long.reverseBytes(x) >>> 64 - imm();
                return imm() == 64 ? turned : turned & (1L << imm()) - 1;
        }
    }

    private int halves(int sign, int x, int y) {
        switch (sign) {
            case 3:
                return y == 0 ? 0 : off() == 1 ? x / y : Integer.divideUnsigned(x, y);
            case 6:
                return x << (y & 31);
            case 7:
                return x >>> (y & 31);
            case 9:
                return y == 0 ? x : off() == 1 ? x % y : Integer.remainderUnsigned(x, y);
            case 11:
                return off() == 8 ? (byte) y : off() == 16 ? (short) y : y;
            case 12:
                return x >> (y & 31);
            default:
                return (int) operate(sign, x, y);
        }
    }

    private void lead() {
        switch (op()) {
            case 0x05:
                at += off();
                break;
            case 0x06:
                at += imm();
                break;
            case 0x85:
                if (s() == 1) {
                    enter();
                } else {
                    help(imm());
                }
                break;
            case 0x95:
                exit();
                break;
            default:
                at += isSo() ? off() : 0;
                break;
        }
    }

    private void enter() {
        Frame f = new Frame();
        System.arraycopy(top().regs, 1, f.regs, 1, 5);
        f.back = at;
        frames.add(f);
        at += imm();
        must(frames.size() <= 4, "a 5th frame");
    }

    private void exit() {
        Thing answer = Thing.of(number(0));
        if (frames.size() == 1) {
            over = true;
            return;
        }
        at = frames.remove(frames.size() - 1).back;
        Arrays.fill(top().regs, 1, 6, null);
        set(0, answer);
    }

    private boolean isSo() {
        boolean side = op() % 16 >= 8;
        Thing x = get(d());
        Thing y = side ? get(s()) : Thing.of(imm());
        int sign = op() >> 4;
        if (x.isNumber() && y.isNumber()) {
            boolean wide = op() % 8 == 5;
            return isSo(sign, wide ? x.n : (int) x.n, wide ? y.n : (int) y.n, wide);
        }
        if (x.room == packetRoom && y.room == packetRoom) {
            must(sign == 2 || sign == 3 || sign == 10 || sign == 11, "places in such a jump");
            return isSo(sign, x.n + 100000, y.n + 100000, true);
        }
        must(!side && imm() == 0 && (sign == 1 || sign == 5), "places in such a jump");
        return sign == 5;
    }

    private static boolean isSo(int sign, long x, long y, boolean wide) {
        int unsigned = wide ? Long.compareUnsigned(x, y) : Integer.compareUnsigned((int) x, (int) y);
        switch (sign) {
            case 1:
                return x == y;
            case 2:
                return unsigned > 0;
            case 3:
                return unsigned >= 0;
            case 4:
                return (x & y & (wide ? -1 : 0xFFFFFFFFL)) != 0;
            case 5:
                return x != y;
            case 6:
                return x > y;
            case 7:
                return x >= y;
            case 10:
                return unsigned < 0;
            case 11:
                return unsigned <= 0;
            case 12:
                return x < y;
            default:
                return x <= y;
        }
    }

    private void help(int helper) {
        Thing answer = Thing.of(0);
        switch (helper) {
            case 1:
            case 2:
            case 3:
                answer = helpKeyed(helper);
                break;
            case 5:
                answer = Thing.of(steps);
                break;
            case 6:
                for (byte b : bytes(get(1), 0, number(2))) {
                    if (trace.size() < 2000) {
                        trace.add(b);
                    }
                }
                answer = Thing.of(number(2));
                break;
            case 7:
                chance = chance * 6364136223846793005L + 1442695040888963407L;
                answer = Thing.of(chance >>> 32);
                break;
            case 12:
                long index = number(3);
                int[] slots = maps[get(2).map].slots;
                int to = index >= 0 && index < slots.length ? slots[(int) index] : -1;
                if (to >= 0 && taken[to] && tails < 8) {
                    tails++;
                    begin(to);
                    return;
                }
                answer = Thing.of(-1);
                break;
            case 26:
                answer = Thing.of(readPacket(number(2), get(3), number(4)));
                break;
            case 44:
                answer = Thing.of(movePacket((int) number(2)));
                break;
            case 131:
                answer = newRecord(maps[get(1).map], (int) number(2));
                break;
            default:
                endRecord(get(1), helper == 132);
                break;
        }
        Arrays.fill(top().regs, 1, 6, null);
        set(0, answer);
    }

    private Thing helpKeyed(int helper) {
        Store s = maps[get(1).map];
        byte[] key = bytes(get(2), 0, s.key);
        if (helper == 1) {
            Room room = value(s, key);
            return room == null ? Thing.of(0) : new Thing(room, -1, 0);
        }
        return Thing.of(helper == 2 ? update(s, key, bytes(get(3), 0, s.value), number(4)) : remove(s, key));
    }

    private long readPacket(long from, Thing to, long n) {
        byte[] p = packetRoom.bytes;
        boolean there = Long.compareUnsigned(from, p.length) <= 0 && from + n <= p.length;
        putBytes(to, 0, there ? Arrays.copyOfRange(p, (int) from, (int) (from + n)) : new byte[(int) n]);
        return there ? 0 : -14;
    }

    private long movePacket(int by) {
        byte[] p = packetRoom.bytes;
        if (p.length - (long) by > 256 || p.length < by) {
            return -22;
        }
        byte[] moved = new byte[p.length - by];
        for (int i = 0; i < moved.length; i++) {
            moved[i] = i + by < 0 ? 0 : p[i + by];
        }
        packetRoom = new Room(moved, false);
        return 0;
    }

    private static Thing newRecord(Store s, int n) {
        if (s.finished.size() + s.held.size() >= s.most) {
            return Thing.of(0);
        }
        Room room = new Room(new byte[n], false);
        s.held.add(room);
        return new Thing(room, -1, 0);
    }

    private void endRecord(Thing p, boolean finished) {
        for (Store s : maps) {
            if (s != null && s.held.remove(p.room)) {
                if (finished) {
                    s.finished.add(p.room.bytes);
                }
                p.room.alive = false;
                return;
            }
        }
        throw new Wrong("no record is held there");
    }
}
