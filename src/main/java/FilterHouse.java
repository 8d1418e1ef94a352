import java.util.Arrays;

/** A house for small programs that are judged before they may run, and run on packets. */
public final class FilterHouse {
    public static final int NONE = -1;

    private static final int TAPE_MOST = 4000;

    private final byte[] tape = new byte[TAPE_MOST];
    private int tapeSize = 0;
    private final Out output = new Out();
    private final Slots slots = new Slots();
    private final Reader reader = new Reader();
    private final Maps maps = new Maps();
    private final Judge judges = new Judge(maps);
    private final Runs runs = new Runs(slots, maps);

    public FilterHouse() {
    }

    public int feed(int a, int b, int c, int d, int e) {
        if (tapeSize + 20 > TAPE_MOST) {
            return NONE;
        }
        feedNumber(a);
        feedNumber(b);
        feedNumber(c);
        feedNumber(d);
        feedNumber(e);
        return tapeSize;
    }

    private void feedNumber(int x) {
        for (int shift = 24; shift >= 0; shift -= 8) {
            tape[tapeSize] = (byte) (x >> shift);
            tapeSize++;
        }
    }

    public int cut(int n) {
        if (n < 0 || n > tapeSize) {
            return NONE;
        }
        int went = tapeSize - n;
        tapeSize = n;
        return went;
    }

    private int useTape() {
        int n = tapeSize;
        tapeSize = 0;
        return n;
    }

    public int assemble(int slot) {
        int n = useTape();
        if (!Slots.isSlot(slot)) {
            return NONE;
        }
        int count = reader.read(tape, n);
        if (count > 0) {
            slots.change(slot, reader.made, count);
        }
        return count;
    }

    public int load(int slot) {
        int n = useTape();
        if (!Slots.isSlot(slot) || n < 8 || n > 1600 || n % 8 != 0) {
            return NONE;
        }
        slots.changeBytes(slot, tape, n / 8);
        return n / 8;
    }

    public int words(int slot) {
        return Slots.isSlot(slot) ? slots.count[slot] : 0;
    }

    public long word(int slot, int i) {
        if (i < 0 || i >= words(slot)) {
            return 0;
        }
        return slots.code[slot][i];
    }

    public int print(int slot) {
        int n = words(slot);
        if (n == 0) {
            return NONE;
        }
        output.writeProgram(slots.code[slot], n);
        return output.size;
    }

    public int outs() {
        return output.size;
    }

    public int out(int i) {
        return i < 0 || i >= output.size ? NONE : output.data[i] & 255;
    }

    public int judge(int slot) {
        int n = words(slot);
        if (n == 0) {
            return NONE;
        }
        long[] code = slots.code[slot];
        judges.begin(n);
        int fault = judges.findForm(code);
        if (fault == 0) {
            fault = judges.findPlace(code);
        }
        if (fault == 0) {
            fault = judges.walk(code);
        }
        slots.good[slot] = fault == 0;
        return fault;
    }

    public boolean taken(int slot) {
        return Slots.isSlot(slot) && slots.good[slot];
    }

    public int told(int what) {
        return what < 0 || what > 5 ? NONE : judges.facts[what];
    }

    public long known(int i, int r, int what) {
        return judges.seenValue(i, r, what);
    }

    public boolean map(int m, int kind, int key, int value, int most) {
        return maps.tell(m, kind, key, value, most);
    }

    public int put(int m, int flags) {
        int n = useTape();
        if (!maps.isKeyed(m) || n != maps.keySize[m] + maps.valueSize[m]) {
            return NONE;
        }
        return maps.update(m, tape, 0, tape, maps.keySize[m], flags);
    }

    public int get(int m) {
        int n = useTape();
        if (!maps.isKeyed(m) || n != maps.keySize[m]) {
            return NONE;
        }
        int entry = maps.findEntry(m, tape, 0);
        if (entry < 0) {
            return -2;
        }
        output.size = 0;
        output.addBytes(maps.room, maps.valuePlace(m, entry), maps.valueSize[m]);
        return output.size;
    }

    public int remove(int m) {
        int n = useTape();
        if (!maps.isKeyed(m) || n != maps.keySize[m]) {
            return NONE;
        }
        int answer = maps.take(m, tape, 0);
        maps.freeCells();
        return answer;
    }

    public int entry(int m, int i) {
        if (!maps.isKind(m, Maps.TABLE) || i < 0 || i >= maps.filled[m]) {
            return NONE;
        }
        int cell = maps.list[m * 16 + i];
        output.size = 0;
        output.addBytes(maps.keys, Maps.keyPlace(m, cell), maps.keySize[m]);
        output.addBytes(maps.room, maps.valuePlace(m, i), maps.valueSize[m]);
        return output.size;
    }

    public int size(int m) {
        return maps.isTold(m) ? maps.filled[m] : NONE;
    }

    public boolean link(int m, int index, int slot) {
        if (!maps.isKind(m, Maps.PROGRAMS) || index < 0 || index >= maps.most[m]) {
            return false;
        }
        if (slot != NONE && !Slots.isSlot(slot)) {
            return false;
        }
        maps.setSlot(m, index, slot);
        return true;
    }

    public int next(int m) {
        if (!maps.isKind(m, Maps.RECORDS) || maps.filled[m] == 0) {
            return NONE;
        }
        int record = maps.takeEldest(m);
        output.size = 0;
        output.addBytes(maps.room, Maps.recordPlace(m, record), maps.recordSize[m * 16 + record]);
        return output.size;
    }

    public int packet() {
        int n = useTape();
        if (n > Maps.PACKET_MOST) {
            return NONE;
        }
        System.arraycopy(tape, 0, maps.room, Maps.PACKET, n);
        runs.packetSize = n;
        return n;
    }

    public int length() {
        return runs.packetSize;
    }

    public int packetByte(int i) {
        return i < 0 || i >= runs.packetSize ? NONE : maps.room[Maps.PACKET + i] & 255;
    }

    public void given(int mark, int source) {
        runs.mark = mark;
        runs.source = source;
    }

    public int mark() {
        return runs.mark;
    }

    public void chances(long x) {
        runs.chance = x;
    }

    public int run(int slot, int way) {
        if (!taken(slot) || way < 0 || way > 1) {
            return NONE;
        }
        return runs.goThrough(slot, way);
    }

    public long result() {
        return runs.result;
    }

    public int tails() {
        return runs.tails;
    }

    public long steps() {
        return runs.steps;
    }

    public int traces() {
        return runs.traceSize;
    }

    public int trace(int i) {
        return i < 0 || i >= runs.traceSize ? NONE : runs.trace[i] & 255;
    }

    public int tear() {
        int had = runs.traceSize;
        runs.traceSize = 0;
        return had;
    }

    /** The eight places for programs. */
    static final class Slots {
        static final int PLACES = 8;
        static final int WORDS_MOST = 200;

        final long[][] code = new long[PLACES][WORDS_MOST];
        final int[] count = new int[PLACES];
        final boolean[] good = new boolean[PLACES];
        /** Whether the plain machine's code of a slot is that of its words. */
        final boolean[] turned = new boolean[PLACES];

        static boolean isSlot(int slot) {
            return slot >= 0 && slot < PLACES;
        }

        void change(int slot, long[] from, int n) {
            System.arraycopy(from, 0, code[slot], 0, n);
            changed(slot, n);
        }

        void changeBytes(int slot, byte[] from, int n) {
            for (int i = 0; i < n; i++) {
                code[slot][i] = Form.number(from, 8 * i, 8);
            }
            changed(slot, n);
        }

        private void changed(int slot, int n) {
            count[slot] = n;
            good[slot] = false;
            turned[slot] = false;
        }
    }

    /** What words are, and what they do to numbers. */
    static final class Form {
        static final long F = 0xFFFFFFFFL;
        static final int PAIR = 0x18;
        static final int GO = 0x05;
        static final int GO_FAR = 0x06;
        static final int CALL = 0x85;
        static final int EXIT = 0x95;
        static final int NOWHERE = -1;

        static int op(long w) {
            return (int) w & 255;
        }

        static int dst(long w) {
            return (int) (w >> 8) & 15;
        }

        static int src(long w) {
            return (int) (w >> 12) & 15;
        }

        static int off(long w) {
            return (short) (w >> 16);
        }

        static int imm(long w) {
            return (int) (w >> 32);
        }

        static int bytes(int op) {
            switch (op & 0x18) {
                case 0x00:
                    return 4;
                case 0x08:
                    return 2;
                case 0x10:
                    return 1;
                default:
                    return 8;
            }
        }

        /** How many words the instruction at i has; 0: none begins there. */
        static int span(long[] code, int n, int i) {
            long w = code[i];
            if (op(w) == PAIR) {
                return i + 1 < n && isPair(w, code[i + 1]) ? 2 : 0;
            }
            return isSingle(w) ? 1 : 0;
        }

        static boolean isPair(long w, long second) {
            if (op(w) != PAIR || dst(w) > 9 || off(w) != 0 || (second & F) != 0) {
                return false;
            }
            if (src(w) == 1) {
                return imm(w) >= 0 && imm(w) <= 7 && second == 0;
            }
            return src(w) == 0;
        }

        static boolean isSingle(long w) {
            switch (op(w) & 7) {
                case 1:
                case 2:
                case 3:
                    return isMemory(w);
                case 4:
                case 7:
                    return isAlu(w);
                case 5:
                case 6:
                    return isJump(w);
                default:
                    return false;
            }
        }

        private static boolean isAlu(long w) {
            int op = op(w);
            int code = op & 0xF0;
            boolean wide = (op & 7) == 7;
            boolean right = (op & 8) != 0;
            int imm = imm(w);
            if (dst(w) > 9 || code > 0xD0) {
                return false;
            }
            if (code == 0xD0) {
                return op != 0xDF && src(w) == 0 && off(w) == 0 && (imm == 16 || imm == 32 || imm == 64);
            }
            if (right ? src(w) > 10 || imm != 0 : src(w) != 0) {
                return false;
            }
            switch (code) {
                case 0x30:
                case 0x90:
                    return (off(w) == 0 || off(w) == 1) && (right || imm != 0);
                case 0x60:
                case 0x70:
                case 0xC0:
                    return off(w) == 0 && imm >= 0 && imm <= (wide ? 63 : 31);
                case 0x80:
                    return off(w) == 0 && !right && imm == 0;
                case 0xB0:
                    return off(w) == 0 || right && (off(w) == 8 || off(w) == 16 || wide && off(w) == 32);
                default:
                    return off(w) == 0;
            }
        }

        private static boolean isJump(long w) {
            int op = op(w);
            switch (op) {
                case GO:
                    return dst(w) == 0 && src(w) == 0 && imm(w) == 0;
                case GO_FAR:
                    return dst(w) == 0 && src(w) == 0 && off(w) == 0;
                case CALL:
                    return dst(w) == 0 && off(w) == 0 && (src(w) == 1 || src(w) == 0 && imm(w) >= 0);
                case EXIT:
                    return w == EXIT;
                default:
                    break;
            }
            int code = op & 0xF0;
            if (code == 0 || code == 0x80 || code == 0x90 || code > 0xD0 || dst(w) > 10) {
                return false;
            }
            return (op & 8) != 0 ? src(w) <= 10 && imm(w) == 0 : src(w) == 0;
        }

        private static boolean isMemory(long w) {
            int op = op(w);
            int mode = op & 0xE0;
            switch (op & 7) {
                case 1:
                    return (mode == 0x60 || mode == 0x80 && op != 0x99) && dst(w) <= 9 && src(w) <= 10 && imm(w) == 0;
                case 2:
                    return mode == 0x60 && dst(w) <= 10 && src(w) == 0;
                default:
                    break;
            }
            if (dst(w) > 10 || src(w) > 10) {
                return false;
            }
            if (mode == 0x60) {
                return imm(w) == 0;
            }
            return (op == 0xC3 || op == 0xDB) && isExchange(imm(w), src(w));
        }

        private static boolean isExchange(int imm, int src) {
            switch (imm) {
                case 0x00:
                case 0x40:
                case 0x50:
                case 0xA0:
                case 0xF1:
                    return true;
                case 0x01:
                case 0x41:
                case 0x51:
                case 0xA1:
                case 0xE1:
                    return src <= 9;
                default:
                    return false;
            }
        }

        /** Whether an instruction goes on elsewhere (no FUNCTION, no EXIT). */
        static boolean leaps(long w) {
            int low = op(w) & 7;
            return (low == 5 || low == 6) && op(w) != CALL && op(w) != EXIT;
        }

        static boolean callsFunction(long w) {
            return op(w) == CALL && src(w) == 1;
        }

        /** The word to which the instruction at i leads, if it is one of n. */
        static int target(long w, int i, int n) {
            long to = (long) i + 1 + (op(w) == GO_FAR || op(w) == CALL ? imm(w) : off(w));
            return to < 0 || to >= n ? NOWHERE : (int) to;
        }

        static long number(byte[] from, int at, int n) {
            long x = 0;
            for (int i = n - 1; i >= 0; i--) {
                x = x << 8 | from[at + i] & 255;
            }
            return x;
        }

        static boolean below(long x, long y) {
            return x + Long.MIN_VALUE < y + Long.MIN_VALUE;
        }

        /** Without sign; by 0: 0. */
        static long divide(long x, long y) {
            if (y < 0) {
                return x < 0 && x >= y ? 1 : 0;
            }
            if (y == 0) {
                return 0;
            }
            if (x >= 0) {
                return x / y;
            }
            // x has its highest bit: half of it is divided, which can be one too few
            long half = ((x >>> 1) / y) << 1;
            long left = x - half * y;
            return left < 0 || left >= y ? half + 1 : half;
        }

        static long extend(long x, int bits) {
            return bits <= 0 || bits >= 64 ? x : x << 64 - bits >> 64 - bits;
        }

        /** What an ALU instruction makes of its sides. */
        static long operate(int op, int off, long left, long right) {
            boolean wide = (op & 7) == 7;
            long x = wide ? left : left & F;
            long y = wide ? right : right & F;
            int shift = (int) y & (wide ? 63 : 31);
            long z;
            switch (op & 0xF0) {
                case 0x00:
                    z = x + y;
                    break;
                case 0x10:
                    z = x - y;
                    break;
                case 0x20:
                    z = x * y;
                    break;
                case 0x30:
                    z = off == 1 ? divideSigned(wide ? x : (int) x, wide ? y : (int) y) : divide(x, y);
                    break;
                case 0x40:
                    z = x | y;
                    break;
                case 0x50:
                    z = x & y;
                    break;
                case 0x60:
                    z = x << shift;
                    break;
                case 0x70:
                    z = x >>> shift;
                    break;
                case 0x80:
                    z = -x;
                    break;
                case 0x90:
                    z = off == 1 ? restSigned(wide ? x : (int) x, wide ? y : (int) y) : x - divide(x, y) * y;
                    break;
                case 0xA0:
                    z = x ^ y;
                    break;
                case 0xB0:
                    z = extend(y, off);
                    break;
                default:
                    z = (wide ? x : (int) x) >> shift;
                    break;
            }
            return wide ? z : z & F;
        }

        static long rest(long x, long y) {
            return x - divide(x, y) * y;
        }

        static long divideSigned(long x, long y) {
            return y == 0 ? 0 : x / y;
        }

        static long restSigned(long x, long y) {
            return y == 0 ? x : x % y;
        }

        /** D4, DC, D7. */
        static long turn(int op, int bits, long x) {
            long low = bits >= 64 ? x : x & (1L << bits) - 1;
            return op == 0xD4 ? low : reverse(low, bits / 8);
        }

        static long reverse(long x, int n) {
            long y = 0;
            for (int i = 0; i < n; i++) {
                y = y << 8 | x >> 8 * i & 255;
            }
            return y;
        }

        /** Whether a jump's condition is so. */
        static boolean holds(int op, long left, long right) {
            boolean wide = (op & 7) == 5;
            long x = wide ? left : (int) left;
            long y = wide ? right : (int) right;
            // numbers of 32 bits have the same order with their signs drawn up, with signs and without
            switch (op & 0xF0) {
                case 0x10:
                    return x == y;
                case 0x20:
                    return below(y, x);
                case 0x30:
                    return !below(x, y);
                case 0x40:
                    return (x & y) != 0;
                case 0x50:
                    return x != y;
                case 0x60:
                    return x > y;
                case 0x70:
                    return x >= y;
                case 0xA0:
                    return below(x, y);
                case 0xB0:
                    return !below(y, x);
                case 0xC0:
                    return x < y;
                default:
                    return x <= y;
            }
        }
    }

    /** Reads texts into words. */
    static final class Reader {
        private static final int NAME = 1;
        private static final int NUMBER = 2;
        /** A number beyond 64 bits. */
        private static final int HUGE = 3;
        private static final int SIGN = 4;
        private static final int LINE = 5;
        private static final int END = 6;
        private static final int ODD = 7;

        private static final int NO_REGISTER = -1;
        private static final int HALF_KIND = 16;
        private static final int NO_WHERE = -1;

        final long[] made = new long[Slots.WORDS_MOST];
        private int count;
        private byte[] text;
        /** The tokens: kind, begin, end, and a number's value or a sign's characters. */
        private final int[] kinds = new int[TAPE_MOST + 1];
        private final int[] begins = new int[TAPE_MOST + 1];
        private final int[] ends = new int[TAPE_MOST + 1];
        private final long[] values = new long[TAPE_MOST + 1];
        private int tokens;
        /** The token at hand. */
        private int at;
        private int wrong;
        /** Labels: token and word, one behind the other. */
        private final int[] labels = new int[TAPE_MOST];
        private int labelCount;
        /** Names of a WHERE: token and word. */
        private final int[] links = new int[2 * Slots.WORDS_MOST];
        private int linkCount;
        /** The instruction that is being read. */
        private long word;
        private long second;
        private boolean pair;
        private boolean any;
        private int where;

        /** How many words the text has; or -10 less the place that is WRONG. */
        int read(byte[] bytes, int n) {
            text = bytes;
            findTokens(n);
            at = 0;
            count = 0;
            labelCount = 0;
            linkCount = 0;
            wrong = NONE;
            for (int line = 0; line <= tokens && readLine(); line++) {
                if (kinds[at] == END) {
                    break;
                }
                at++;
            }
            if (wrong < 0) {
                resolve();
            }
            if (wrong < 0 && count == 0) {
                wrong = n;
            }
            return wrong < 0 ? count : -10 - wrong;
        }

        private void findTokens(int n) {
            tokens = 0;
            int i = 0;
            for (int turn = 0; turn <= TAPE_MOST && i < n; turn++) {
                int c = text[i] & 255;
                if (c == ' ' || c == 9) {
                    i++;
                } else if (c == ';') {
                    i = lineEnd(i, n);
                } else {
                    i = findToken(i, n, c);
                }
            }
            addToken(END, n, n, 0);
        }

        private void addToken(int kind, int begin, int end, long value) {
            kinds[tokens] = kind;
            begins[tokens] = begin;
            ends[tokens] = end;
            values[tokens] = value;
            tokens++;
        }

        private int lineEnd(int from, int n) {
            int i = from;
            while (i < n && text[i] != 10) {
                i++;
            }
            return i;
        }

        private int findToken(int i, int n, int c) {
            if (c == 10) {
                addToken(LINE, i, i + 1, 0);
            } else if (isLetter(c)) {
                int end = i + 1;
                while (end < n && (isLetter(text[end]) || isDigit(text[end]))) {
                    end++;
                }
                addToken(NAME, i, end, 0);
            } else if (isDigit(c)) {
                findNumber(i, n);
            } else {
                findSign(i, n, c);
            }
            return ends[tokens - 1];
        }

        private static boolean isLetter(int c) {
            return c >= 'a' && c <= 'z' || c >= 'A' && c <= 'Z' || c == '_';
        }

        private static boolean isDigit(int c) {
            return c >= '0' && c <= '9';
        }

        private static int hexDigit(int c) {
            if (isDigit(c)) {
                return c - '0';
            }
            if (c >= 'a' && c <= 'f') {
                return c - 'a' + 10;
            }
            return c >= 'A' && c <= 'F' ? c - 'A' + 10 : NONE;
        }

        private void findNumber(int begin, int n) {
            boolean hex = begin + 2 < n && text[begin] == '0' && text[begin + 1] == 'x' && hexDigit(text[begin + 2]) >= 0;
            long value = 0;
            boolean huge = false;
            int i = hex ? begin + 2 : begin;
            while (i < n && (hex ? hexDigit(text[i]) >= 0 : isDigit(text[i]))) {
                int digit = hexDigit(text[i]);
                long most = hex ? 0x0FFFFFFFFFFFFFFFL : 0x1999999999999999L;
                // 2^64 - 1 ends with the digit 5
                huge = huge || Form.below(most, value) || !hex && value == most && digit > 5;
                value = value * (hex ? 16 : 10) + digit;
                i++;
            }
            addToken(huge ? HUGE : NUMBER, begin, i, value);
        }

        private void findSign(int i, int n, int c) {
            int c2 = i + 1 < n ? text[i + 1] & 255 : 0;
            int c3 = i + 2 < n ? text[i + 2] & 255 : 0;
            if ((c == '<' || c == '>') && c2 == c && c3 == '=') {
                addToken(SIGN, i, i + 3, sign(c, c2, c3));
            } else if (c2 == '=' && isOneOf(c, "=!+-*/%&|^<>")) {
                addToken(SIGN, i, i + 2, sign(c, c2, 0));
            } else {
                addToken(isOneOf(c, "():,=+-*/%&|^<>") ? SIGN : ODD, i, i + 1, c);
            }
        }

        private static long sign(int c, int c2, int c3) {
            return c | c2 << 8 | c3 << 16;
        }

        private static boolean isOneOf(int c, String some) {
            for (int i = 0; i < some.length(); i++) {
                if (some.charAt(i) == c) {
                    return true;
                }
            }
            return false;
        }

        private boolean fail() {
            wrong = begins[at];
            return false;
        }

        private boolean isName(String name) {
            return kinds[at] == NAME && sameText(at, name);
        }

        private boolean sameText(int token, String name) {
            if (ends[token] - begins[token] != name.length()) {
                return false;
            }
            for (int i = 0; i < name.length(); i++) {
                if (text[begins[token] + i] != name.charAt(i)) {
                    return false;
                }
            }
            return true;
        }

        private boolean isSign(int c) {
            return kinds[at] == SIGN && values[at] == c;
        }

        /** The token at hand must be this sign, and is gone over. */
        private boolean passSign(int c) {
            if (!isSign(c)) {
                return fail();
            }
            at++;
            return true;
        }

        /** 0 .. 10, a W one 16 more; NO_REGISTER: the token at hand is none. */
        private int register() {
            int begin = begins[at];
            int size = ends[at] - begin;
            if (kinds[at] != NAME || size < 2 || size > 3 || text[begin] != 'r' && text[begin] != 'w') {
                return NO_REGISTER;
            }
            int base = text[begin] == 'w' ? HALF_KIND : 0;
            int digit = text[begin + 1] - '0';
            if (size == 3) {
                return digit == 1 && text[begin + 2] == '0' ? base + 10 : NO_REGISTER;
            }
            return digit >= 0 && digit <= 9 ? base + digit : NO_REGISTER;
        }

        private boolean readLine() {
            boolean name = kinds[at] == NAME && register() == NO_REGISTER;
            if (name && kinds[at + 1] == SIGN && values[at + 1] == ':') {
                if (findLabel(at) != NO_WHERE) {
                    return fail();
                }
                labels[2 * labelCount] = at;
                labels[2 * labelCount + 1] = count;
                labelCount++;
                at += 2;
            }
            if (kinds[at] == LINE || kinds[at] == END) {
                return true;
            }
            int first = at;
            word = 0;
            second = 0;
            pair = false;
            any = false;
            where = NO_WHERE;
            int reg = register();
            if (!(reg != NO_REGISTER ? readChange(reg) : isSign('*') ? readPut() : readNamed())) {
                return false;
            }
            if (kinds[at] != LINE && kinds[at] != END) {
                return fail();
            }
            if (!addStatement()) {
                wrong = begins[first];
                return false;
            }
            return true;
        }

        /** The word that a label of this token's name tells, or NO_WHERE. */
        private int findLabel(int token) {
            for (int i = 0; i < labelCount; i++) {
                if (sameName(labels[2 * i], token)) {
                    return labels[2 * i + 1];
                }
            }
            return NO_WHERE;
        }

        private boolean sameName(int a, int b) {
            int size = ends[a] - begins[a];
            if (size != ends[b] - begins[b]) {
                return false;
            }
            for (int i = 0; i < size; i++) {
                if (text[begins[a] + i] != text[begins[b] + i]) {
                    return false;
                }
            }
            return true;
        }

        private boolean addStatement() {
            boolean good = any || (pair ? Form.isPair(word, second) : Form.isSingle(word));
            if (!good || count + (pair ? 2 : 1) > Slots.WORDS_MOST) {
                return false;
            }
            if (where != NO_WHERE) {
                links[2 * linkCount] = where;
                links[2 * linkCount + 1] = count;
                linkCount++;
            }
            made[count] = word;
            count++;
            if (pair) {
                made[count] = second;
                count++;
            }
            return true;
        }

        private void resolve() {
            for (int i = 0; i < linkCount; i++) {
                int place = links[2 * i + 1];
                int to = findLabel(links[2 * i]);
                if (to == NO_WHERE) {
                    wrong = begins[links[2 * i]];
                    return;
                }
                made[place] |= leap(Form.op(made[place]), to - place - 1);
            }
        }

        /** The bits in which an instruction says how far it leads. */
        private static long leap(int op, long far) {
            return op == Form.GO_FAR || op == Form.CALL ? far << 32 : (far & 0xFFFF) << 16;
        }

        private boolean readNamed() {
            int token = at;
            if (kinds[token] != NAME) {
                return fail();
            }
            at++;
            if (sameText(token, "if")) {
                return readIf();
            }
            if (sameText(token, "goto")) {
                word = Form.GO;
                return readWhere(32767);
            }
            if (sameText(token, "gotol")) {
                word = Form.GO_FAR;
                return readWhere(Integer.MAX_VALUE);
            }
            if (sameText(token, "call")) {
                return readCall();
            }
            if (sameText(token, "exit")) {
                word = Form.EXIT;
                return true;
            }
            if (sameText(token, "word")) {
                any = true;
                word = values[at];
                return passNumber(-1L);
            }
            if (sameText(token, "lock")) {
                return readExchange(0, true);
            }
            if (sameText(token, "fetch")) {
                return readExchange(1, true);
            }
            if (sameText(token, "xchg")) {
                return readExchange(0xE1, false);
            }
            if (sameText(token, "cmpxchg")) {
                return readExchange(0xF1, false);
            }
            at = token;
            return fail();
        }

        /** The token at hand must be a number up to this (without sign), and is gone over. */
        private boolean passNumber(long most) {
            if (kinds[at] != NUMBER || Form.below(most, values[at])) {
                return fail();
            }
            at++;
            return true;
        }

        private boolean readCall() {
            word = Form.CALL;
            if (kinds[at] != NAME && !isSign('+') && !isSign('-')) {
                word |= values[at] << 32;
                return passNumber(Integer.MAX_VALUE);
            }
            word |= 1 << 12;
            return readWhere(Integer.MAX_VALUE);
        }

        private boolean readWhere(int most) {
            if (kinds[at] == NAME) {
                if (register() != NO_REGISTER) {
                    return fail();
                }
                where = at;
                at++;
                return true;
            }
            boolean minus = isSign('-');
            if (!minus && !isSign('+')) {
                return fail();
            }
            at++;
            long far = minus ? -values[at] : values[at];
            if (!passNumber(minus ? most + 1L : most)) {
                return false;
            }
            word |= leap(Form.op(word), far);
            return true;
        }

        /** [-] NUMBER from -2^31 to 2^32 - 1. */
        private boolean readConst() {
            boolean minus = isSign('-');
            if (minus) {
                at++;
            }
            word |= (minus ? -values[at] : values[at]) << 32;
            return passNumber(minus ? 1L << 31 : Form.F);
        }

        /** The right side, a register of the same kind as reg. */
        private boolean readRight(int reg) {
            int other = register();
            if (other == NO_REGISTER || (other & HALF_KIND) != (reg & HALF_KIND)) {
                return fail();
            }
            word |= 8 | (other & 15) << 12;
            at++;
            return true;
        }

        private boolean readIf() {
            int reg = register();
            if (reg == NO_REGISTER) {
                return fail();
            }
            at++;
            boolean signs = isName("s");
            if (signs) {
                at++;
            }
            int code = signs ? signedComparison() : comparison();
            if (code < 0) {
                return fail();
            }
            at++;
            word = code | (reg < HALF_KIND ? 5 : 6) | (reg & 15) << 8;
            if (!(register() == NO_REGISTER ? readConst() : readRight(reg))) {
                return false;
            }
            if (!isName("goto")) {
                return fail();
            }
            at++;
            return readWhere(32767);
        }

        private int signedComparison() {
            if (isSign('>')) {
                return 0x60;
            }
            if (isSign('>' | '=' << 8)) {
                return 0x70;
            }
            if (isSign('<')) {
                return 0xC0;
            }
            return isSign('<' | '=' << 8) ? 0xD0 : NONE;
        }

        private int comparison() {
            if (kinds[at] != SIGN) {
                return NONE;
            }
            switch ((int) values[at]) {
                case '=' | '=' << 8:
                    return 0x10;
                case '>':
                    return 0x20;
                case '>' | '=' << 8:
                    return 0x30;
                case '&':
                    return 0x40;
                case '!' | '=' << 8:
                    return 0x50;
                case '<':
                    return 0xA0;
                case '<' | '=' << 8:
                    return 0xB0;
                default:
                    return NONE;
            }
        }

        /** A statement that begins with a register. */
        private boolean readChange(int reg) {
            at++;
            word = (reg < HALF_KIND ? 7 : 4) | (reg & 15) << 8;
            if (isSign('=')) {
                at++;
                return readTaken(reg);
            }
            boolean signs = isName("s");
            if (signs) {
                at++;
            }
            int code = signs ? signedOperation() : operation();
            if (code < 0) {
                return fail();
            }
            at++;
            word |= code;
            return register() == NO_REGISTER ? readConst() : readRight(reg);
        }

        /** The bits of OP and OFF for s/=, s%=, s>>=. */
        private int signedOperation() {
            if (isSign('/' | '=' << 8)) {
                return 0x30 | 1 << 16;
            }
            if (isSign('%' | '=' << 8)) {
                return 0x90 | 1 << 16;
            }
            return isSign('>' | '>' << 8 | '=' << 16) ? 0xC0 : NONE;
        }

        private int operation() {
            if (kinds[at] != SIGN) {
                return NONE;
            }
            switch ((int) values[at]) {
                case '+' | '=' << 8:
                    return 0x00;
                case '-' | '=' << 8:
                    return 0x10;
                case '*' | '=' << 8:
                    return 0x20;
                case '/' | '=' << 8:
                    return 0x30;
                case '|' | '=' << 8:
                    return 0x40;
                case '&' | '=' << 8:
                    return 0x50;
                case '<' | '<' << 8 | '=' << 16:
                    return 0x60;
                case '>' | '>' << 8 | '=' << 16:
                    return 0x70;
                case '%' | '=' << 8:
                    return 0x90;
                case '^' | '=' << 8:
                    return 0xA0;
                default:
                    return NONE;
            }
        }

        /** What stands behind REG =. */
        private boolean readTaken(int reg) {
            boolean full = reg < HALF_KIND;
            if (register() != NO_REGISTER) {
                word |= 0xB0;
                return readRight(reg);
            }
            if (kinds[at] == NUMBER || kinds[at] == HUGE) {
                return readNumber(reg, false);
            }
            if (isSign('-')) {
                at++;
                if (register() == NO_REGISTER) {
                    return readNumber(reg, true);
                }
                word |= 0x80;
                return passRegister(reg);
            }
            if (isSign('(')) {
                at++;
                return readCast(reg);
            }
            if (full && isSign('*')) {
                word = 0x01 | reg << 8;
                return readPointer(12, true);
            }
            if (full && isName("map")) {
                at++;
                word = Form.PAIR | reg << 8 | 1 << 12 | values[at] << 32;
                pair = true;
                return passNumber(7);
            }
            int order = full ? orderName() : NONE;
            if (order < 0) {
                return fail();
            }
            at++;
            word = order & 255 | reg << 8 | (long) (order >> 8) << 32;
            return passRegister(reg);
        }

        private boolean passRegister(int reg) {
            if (register() != reg) {
                return fail();
            }
            at++;
            return true;
        }

        /** OP, and above it IMM, of le16 and so on. */
        private int orderName() {
            int bits = isName("le16") || isName("be16") || isName("bswap16") ? 16
                    : isName("le32") || isName("be32") || isName("bswap32") ? 32
                    : isName("le64") || isName("be64") || isName("bswap64") ? 64 : 0;
            if (bits == 0) {
                return NONE;
            }
            int letter = text[begins[at]];
            int second = text[begins[at] + 1];
            return bits << 8 | (letter == 'l' ? 0xD4 : second == 'e' ? 0xDC : 0xD7);
        }

        /** A number that is taken: of both words before ll, else a CONST. */
        private boolean readNumber(int reg, boolean minus) {
            long value = minus ? -values[at] : values[at];
            boolean number = kinds[at] == NUMBER || kinds[at] == HUGE;
            if (number && reg < HALF_KIND && kinds[at + 1] == NAME && sameText(at + 1, "ll")) {
                word = Form.PAIR | reg << 8 | value << 32;
                second = value >>> 32 << 32;
                pair = true;
                if (!passNumber(minus ? Long.MIN_VALUE : -1L)) {
                    return false;
                }
                at++;
                return true;
            }
            word |= 0xB0 | value << 32;
            return passNumber(minus ? 1L << 31 : Form.F);
        }

        private boolean readCast(int reg) {
            int bits = isName("s8") ? 8 : isName("s16") ? 16 : isName("s32") ? 32 : 0;
            if (bits == 0) {
                return fail();
            }
            at++;
            word |= 0xB0 | bits << 16;
            return passSign(')') && readRight(reg);
        }

        /** A PTR; its register comes into the word at this bit, its OFF and OP's size and mode to theirs. */
        private boolean readPointer(int shift, boolean signs) {
            if (!passSign('*') || !passSign('(')) {
                return false;
            }
            int mode = placeMode(signs);
            if (mode < 0) {
                return fail();
            }
            word |= mode;
            at++;
            if (!passSign('*') || !passSign(')') || !passSign('(')) {
                return false;
            }
            int reg = register();
            if (reg == NO_REGISTER || reg >= HALF_KIND) {
                return fail();
            }
            word |= reg << shift;
            at++;
            boolean minus = isSign('-');
            if (!minus && !isSign('+')) {
                return fail();
            }
            at++;
            word |= ((minus ? -values[at] : values[at]) & 0xFFFF) << 16;
            return passNumber(minus ? 32768 : 32767) && passSign(')');
        }

        private int placeMode(boolean signs) {
            int base = 0x60;
            if (kinds[at] != NAME) {
                return NONE;
            }
            if (signs && (sameText(at, "s8") || sameText(at, "s16") || sameText(at, "s32"))) {
                base = 0x80;
            } else if (!sameText(at, "u8") && !sameText(at, "u16") && !sameText(at, "u32") && !sameText(at, "u64")) {
                return NONE;
            }
            switch (text[begins[at] + 1]) {
                case '8':
                    return base | 0x10;
                case '1':
                    return base | 0x08;
                case '3':
                    return base;
                default:
                    return base | 0x18;
            }
        }

        private boolean readPut() {
            if (!readPointer(8, false)) {
                return false;
            }
            if (!passSign('=')) {
                return false;
            }
            int reg = register();
            if (reg == NO_REGISTER) {
                word |= 0x02;
                return readConst();
            }
            word |= 0x03;
            return readSource(reg);
        }

        private boolean readSource(int reg) {
            if (reg == NO_REGISTER || reg >= HALF_KIND) {
                return fail();
            }
            word |= reg << 12;
            at++;
            return true;
        }

        /** lock, fetch, xchg, cmpxchg. */
        private boolean readExchange(int imm, boolean signed) {
            if (!readPointer(8, false)) {
                return false;
            }
            int code = signed ? exchangeSign() : 0;
            if (code < 0) {
                return fail();
            }
            at += signed ? 1 : 0;
            // these are of the mode C0, beside whose bits are those of 60
            word = word & ~0x60L | 0xC3 | (long) (imm | code) << 32;
            return readSource(register());
        }

        private int exchangeSign() {
            if (isSign('+' | '=' << 8)) {
                return 0x00;
            }
            if (isSign('|' | '=' << 8)) {
                return 0x40;
            }
            if (isSign('&' | '=' << 8)) {
                return 0x50;
            }
            return isSign('^' | '=' << 8) ? 0xA0 : NONE;
        }
    }

    /** The OUT, and how words are PRINTED to it. */
    static final class Out {
        /** 200 statements of at most 40 bytes fit. */
        private static final int MOST = 8192;

        final byte[] data = new byte[MOST];
        int size = 0;
        private final byte[] digits = new byte[20];

        void addBytes(byte[] from, int at, int n) {
            if (size + n <= MOST) {
                System.arraycopy(from, at, data, size, n);
                size += n;
            }
        }

        private void addByte(int c) {
            if (size < MOST) {
                data[size] = (byte) c;
                size++;
            }
        }

        private void addText(String text) {
            for (int i = 0; i < text.length(); i++) {
                addByte(text.charAt(i));
            }
        }

        /** Without sign, in decimal. */
        private void addNumber(long x) {
            long rest = x;
            int n = 0;
            do {
                long tenth = (rest >>> 1) / 5;
                digits[n] = (byte) ('0' + (rest - tenth * 10));
                n++;
                rest = tenth;
            } while (rest != 0 && n < 20);
            for (int i = n - 1; i >= 0; i--) {
                addByte(digits[i]);
            }
        }

        private void addConst(int x) {
            if (x < 0) {
                addByte('-');
            }
            addNumber(x < 0 ? -(long) x : x);
        }

        /** WHERE: with the sign always. */
        private void addWhere(int x) {
            addByte(x < 0 ? '-' : '+');
            addNumber(x < 0 ? -(long) x : x);
        }

        private void addRegister(boolean full, int r) {
            addByte(full ? 'r' : 'w');
            addNumber(r);
        }

        private void addSide(boolean full, long w) {
            if ((w & 8) != 0) {
                addRegister(full, Form.src(w));
            } else {
                addConst(Form.imm(w));
            }
        }

        void writeProgram(long[] code, int n) {
            size = 0;
            int i = 0;
            for (int turn = 0; turn < n && i < n; turn++) {
                int span = Form.span(code, n, i);
                if (span == 1) {
                    writeSingle(code[i]);
                } else if (span == 2) {
                    writePair(code[i], code[i + 1]);
                } else {
                    writeWord(code[i]);
                }
                addByte(10);
                i += span == 2 ? 2 : 1;
            }
        }

        private void writeWord(long w) {
            addText("word 0x");
            for (int shift = 60; shift >= 0; shift -= 4) {
                int digit = (int) (w >> shift) & 15;
                addByte(digit < 10 ? '0' + digit : 'a' + digit - 10);
            }
        }

        private void writePair(long w, long second) {
            addRegister(true, Form.dst(w));
            if (Form.src(w) == 1) {
                addText(" = map ");
                addNumber(Form.imm(w));
            } else {
                addText(" = ");
                addNumber(w >>> 32 | second);
                addText(" ll");
            }
        }

        private void writeSingle(long w) {
            switch (Form.op(w) & 7) {
                case 1:
                    addRegister(true, Form.dst(w));
                    addText(" = ");
                    writePlace(w, Form.src(w), (Form.op(w) & 0xE0) == 0x80 ? 's' : 'u');
                    break;
                case 2:
                    writePlace(w, Form.dst(w), 'u');
                    addText(" = ");
                    addConst(Form.imm(w));
                    break;
                case 3:
                    writeStore(w);
                    break;
                case 5:
                case 6:
                    writeJump(w);
                    break;
                default:
                    writeAlu(w);
                    break;
            }
        }

        private void writePlace(long w, int reg, int sign) {
            addText("*(");
            addByte(sign);
            addNumber(8 * Form.bytes(Form.op(w)));
            addText(" *)(");
            addRegister(true, reg);
            addText(Form.off(w) < 0 ? " - " : " + ");
            addNumber(Form.off(w) < 0 ? -Form.off(w) : Form.off(w));
            addByte(')');
        }

        private void writeStore(long w) {
            if ((Form.op(w) & 0xE0) == 0x60) {
                writePlace(w, Form.dst(w), 'u');
                addText(" = ");
            } else {
                int imm = Form.imm(w);
                addText(imm == 0xE1 ? "xchg " : imm == 0xF1 ? "cmpxchg " : (imm & 1) != 0 ? "fetch " : "lock ");
                writePlace(w, Form.dst(w), 'u');
                addText(exchangeSign(imm));
            }
            addRegister(true, Form.src(w));
        }

        private static String exchangeSign(int imm) {
            switch (imm & 0xF0) {
                case 0x00:
                    return " += ";
                case 0x40:
                    return " |= ";
                case 0x50:
                    return " &= ";
                case 0xA0:
                    return " ^= ";
                default:
                    return " ";
            }
        }

        private void writeJump(long w) {
            int op = Form.op(w);
            if (op == Form.EXIT) {
                addText("exit");
            } else if (op == Form.GO) {
                addText("goto ");
                addWhere(Form.off(w));
            } else if (op == Form.GO_FAR) {
                addText("gotol ");
                addWhere(Form.imm(w));
            } else if (op == Form.CALL) {
                writeCall(w);
            } else {
                boolean full = (op & 7) == 5;
                addText("if ");
                addRegister(full, Form.dst(w));
                addText(comparison(op));
                addSide(full, w);
                addText(" goto ");
                addWhere(Form.off(w));
            }
        }

        private void writeCall(long w) {
            addText("call ");
            if (Form.src(w) == 1) {
                addWhere(Form.imm(w));
            } else {
                addNumber(Form.imm(w));
            }
        }

        private static String comparison(int op) {
            switch (op & 0xF0) {
                case 0x10:
                    return " == ";
                case 0x20:
                    return " > ";
                case 0x30:
                    return " >= ";
                case 0x40:
                    return " & ";
                case 0x50:
                    return " != ";
                case 0x60:
                    return " s> ";
                case 0x70:
                    return " s>= ";
                case 0xA0:
                    return " < ";
                case 0xB0:
                    return " <= ";
                case 0xC0:
                    return " s< ";
                default:
                    return " s<= ";
            }
        }

        private void writeAlu(long w) {
            int op = Form.op(w);
            int code = op & 0xF0;
            boolean full = (op & 7) == 7 || code == 0xD0;
            addRegister(full, Form.dst(w));
            if (code == 0xD0) {
                addText(op == 0xD4 ? " = le" : op == 0xDC ? " = be" : " = bswap");
                addNumber(Form.imm(w));
                addByte(' ');
                addRegister(true, Form.dst(w));
            } else if (code == 0x80) {
                addText(" = - ");
                addRegister(full, Form.dst(w));
            } else if (code == 0xB0 && Form.off(w) != 0) {
                addText(" = (s");
                addNumber(Form.off(w));
                addText(") ");
                addRegister(full, Form.src(w));
            } else {
                addText(operation(code, Form.off(w)));
                addSide(full, w);
            }
        }

        private static String operation(int code, int off) {
            switch (code) {
                case 0x00:
                    return " += ";
                case 0x10:
                    return " -= ";
                case 0x20:
                    return " *= ";
                case 0x30:
                    return off == 1 ? " s/= " : " /= ";
                case 0x40:
                    return " |= ";
                case 0x50:
                    return " &= ";
                case 0x60:
                    return " <<= ";
                case 0x70:
                    return " >>= ";
                case 0x90:
                    return off == 1 ? " s%= " : " %= ";
                case 0xA0:
                    return " ^= ";
                case 0xB0:
                    return " = ";
                default:
                    return " s>>= ";
            }
        }
    }

    /** The maps, and the room of bytes in which all lies that programs can reach. */
    static final class Maps {
        static final int ROW = 0;
        static final int TABLE = 1;
        static final int PROGRAMS = 2;
        static final int RECORDS = 3;

        private static final int COUNT = 8;
        private static final int CELLS = 32;
        private static final int CELL_BYTES = 64;
        private static final int KEY_BYTES = 16;

        static final int PACKET = 0;
        static final int PACKET_MOST = 256;
        static final int STACKS = PACKET + PACKET_MOST;
        static final int STACK_BYTES = 128;
        static final int FRAMES = 4;
        static final int CONTEXT = STACKS + FRAMES * STACK_BYTES;
        static final int CONTEXT_BYTES = 20;
        private static final int VALUES = CONTEXT + CONTEXT_BYTES;
        private static final int RECORD_PLACES = VALUES + COUNT * CELLS * CELL_BYTES;
        static final int ROOM = RECORD_PLACES + COUNT * 16 * CELL_BYTES;

        private static final int FREE = 0;
        private static final int USED = 1;
        /** A cell that is free when the run is over; a record that is finished. */
        private static final int LATER = 2;

        final byte[] room = new byte[ROOM];
        final byte[] keys = new byte[COUNT * CELLS * KEY_BYTES];
        private final boolean[] known = new boolean[COUNT];
        final int[] kind = new int[COUNT];
        final int[] keySize = new int[COUNT];
        final int[] valueSize = new int[COUNT];
        final int[] most = new int[COUNT];
        /** Of each map what size() says. */
        final int[] filled = new int[COUNT];
        /** Of a TABLE the cells in their order, of RECORDS those finished, of PROGRAMS the slots. */
        final int[] list = new int[COUNT * 16];
        final int[] recordSize = new int[COUNT * 16];
        /** Of each cell (or record) whether it is FREE, USED, LATER. */
        private final byte[] state = new byte[COUNT * CELLS];
        private final int[] held = new int[COUNT];
        private boolean anyLater = false;

        private static int cellPlace(int m, int cell) {
            return VALUES + (m * CELLS + cell) * CELL_BYTES;
        }

        static int keyPlace(int m, int cell) {
            return (m * CELLS + cell) * KEY_BYTES;
        }

        static int recordPlace(int m, int record) {
            return RECORD_PLACES + (m * 16 + record) * CELL_BYTES;
        }

        boolean isTold(int m) {
            return m >= 0 && m < COUNT && known[m];
        }

        boolean isKind(int m, int wanted) {
            return isTold(m) && kind[m] == wanted;
        }

        /** Whether it is a ROW or a TABLE. */
        boolean isKeyed(int m) {
            return isTold(m) && (kind[m] == ROW || kind[m] == TABLE);
        }

        boolean tell(int m, int newKind, int key, int value, int newMost) {
            if (m < 0 || m >= COUNT || known[m] || newMost < 1 || newMost > 16) {
                return false;
            }
            if (!isShape(newKind, key, value)) {
                return false;
            }
            known[m] = true;
            kind[m] = newKind;
            keySize[m] = key;
            valueSize[m] = value;
            most[m] = newMost;
            filled[m] = newKind == ROW ? newMost : 0;
            for (int i = 0; i < 16; i++) {
                list[m * 16 + i] = NONE;
            }
            return true;
        }

        private static boolean isShape(int kind, int key, int value) {
            boolean values = value >= 1 && value <= CELL_BYTES;
            switch (kind) {
                case ROW:
                    return key == 4 && values;
                case TABLE:
                    return key >= 1 && key <= KEY_BYTES && values;
                case PROGRAMS:
                case RECORDS:
                    return key == 0 && value == 0;
                default:
                    return false;
            }
        }

        /** Which entry of a ROW or TABLE has this key; NONE: it is not there. */
        int findEntry(int m, byte[] from, int at) {
            if (kind[m] == ROW) {
                int index = (int) Form.number(from, at, 4);
                return index >= 0 && index < most[m] ? index : NONE;
            }
            for (int i = 0; i < filled[m]; i++) {
                if (sameKey(keyPlace(m, list[m * 16 + i]), from, at, keySize[m])) {
                    return i;
                }
            }
            return NONE;
        }

        /** Where the value of an entry is. */
        int valuePlace(int m, int entry) {
            return cellPlace(m, kind[m] == ROW ? entry : list[m * 16 + entry]);
        }

        private boolean sameKey(int place, byte[] from, int at, int n) {
            for (int i = 0; i < n; i++) {
                if (keys[place + i] != from[at + i]) {
                    return false;
                }
            }
            return true;
        }

        int update(int m, byte[] from, int keyAt, byte[] valueFrom, int valueAt, long flags) {
            if (flags < 0 || flags > 2) {
                return -22;
            }
            int entry = findEntry(m, from, keyAt);
            if (kind[m] == ROW && entry < 0) {
                return -7;
            }
            if (entry >= 0 && flags == 1) {
                return -17;
            }
            if (entry < 0 && flags == 2) {
                return -2;
            }
            if (entry < 0) {
                if (filled[m] >= most[m]) {
                    return -7;
                }
                int cell = freeCell(m);
                if (cell < 0) {
                    return -12;
                }
                System.arraycopy(from, keyAt, keys, keyPlace(m, cell), keySize[m]);
                state[m * CELLS + cell] = USED;
                entry = filled[m];
                list[m * 16 + entry] = cell;
                filled[m]++;
            }
            System.arraycopy(valueFrom, valueAt, room, valuePlace(m, entry), valueSize[m]);
            return 0;
        }

        private int freeCell(int m) {
            for (int cell = 0; cell < CELLS; cell++) {
                if (state[m * CELLS + cell] == FREE) {
                    return cell;
                }
            }
            return NONE;
        }

        /** A REMOVE; the cell waits for freeCells(). */
        int take(int m, byte[] from, int at) {
            if (kind[m] == ROW) {
                return -22;
            }
            int entry = findEntry(m, from, at);
            if (entry < 0) {
                return -2;
            }
            state[m * CELLS + list[m * 16 + entry]] = LATER;
            anyLater = true;
            dropAt(m, entry);
            return 0;
        }

        private void dropAt(int m, int from) {
            filled[m]--;
            for (int i = from; i < filled[m]; i++) {
                list[m * 16 + i] = list[m * 16 + i + 1];
            }
        }

        void freeCells() {
            if (!anyLater) {
                return;
            }
            anyLater = false;
            for (int i = 0; i < COUNT * CELLS; i++) {
                if (state[i] == LATER && kind[i / CELLS] == TABLE) {
                    state[i] = FREE;
                }
            }
        }

        void setSlot(int m, int index, int slot) {
            int i = m * 16 + index;
            filled[m] += (slot == NONE ? 0 : 1) - (list[i] == NONE ? 0 : 1);
            list[i] = slot;
        }

        /** The place of a new record of n bytes; NONE: there are MOST. */
        int newRecord(int m, int n) {
            if (filled[m] + held[m] >= most[m]) {
                return NONE;
            }
            int record = freeCell(m);
            if (record < 0 || record >= 16) {
                return NONE;
            }
            held[m]++;
            state[m * CELLS + record] = USED;
            recordSize[m * 16 + record] = n;
            int place = recordPlace(m, record);
            Arrays.fill(room, place, place + CELL_BYTES, (byte) 0);
            return place;
        }

        /** A record that is held, told by its place, is finished or thrown away. */
        void endRecord(int place, boolean finished) {
            int i = (place - RECORD_PLACES) / CELL_BYTES;
            if (place < RECORD_PLACES || i >= COUNT * 16) {
                return;
            }
            int m = i / 16;
            int cell = m * CELLS + i % 16;
            if (state[cell] != USED || filled[m] >= 16) {
                return;
            }
            held[m]--;
            state[cell] = finished ? (byte) LATER : (byte) FREE;
            if (finished) {
                list[m * 16 + filled[m]] = i % 16;
                filled[m]++;
            }
        }

        int takeEldest(int m) {
            int record = list[m * 16];
            state[m * CELLS + record] = FREE;
            dropAt(m, 0);
            return record;
        }
    }

    /** What a run has and changes, and way 0: step by step by the words. */
    static final class Runs {
        private static final int TURNS_MOST = 1000000;
        private static final int TRACE_MOST = 2000;
        private static final int TAILS_MOST = 8;
        /** What programs see as the place of the room's first byte, so that none is at 0. */
        private static final long BASE = 1 << 20;

        private final Slots slots;
        private final Maps maps;
        private final Plain plain = new Plain();
        /** r0 .. r10, behind them what the plain machine has besides. */
        final long[] regs = new long[16];
        private final long[] saved = new long[Maps.FRAMES * 10];
        private final int[] backs = new int[Maps.FRAMES];
        private int depth;
        /** The program that is gone, and where to go on in it. */
        int slot;
        int next;
        boolean over;
        int packetSize = 0;
        int mark = 0;
        int source = 0;
        long chance = 1;
        long result = 0;
        int tails = 0;
        long steps = 0;
        final byte[] trace = new byte[TRACE_MOST];
        int traceSize = 0;

        Runs(Slots slots, Maps maps) {
            this.slots = slots;
            this.maps = maps;
        }

        int goThrough(int first, int way) {
            long before = steps;
            tails = 0;
            over = false;
            setContext(12, mark);
            setContext(16, source);
            setPacket(packetSize);
            enterProgram(first);
            for (int turn = 0; turn < TURNS_MOST && !over; turn++) {
                if (way == 0) {
                    goWord();
                } else {
                    plain.turnProgram(slots, slot);
                    plain.goOn(this);
                }
            }
            result = regs[0];
            mark = (int) Form.number(maps.room, Maps.CONTEXT + 12, 4);
            maps.freeCells();
            return (int) (steps - before);
        }

        private void setContext(int at, long x) {
            putNumber(Maps.CONTEXT + at, x, 4);
        }

        private void setPacket(int n) {
            packetSize = n;
            setContext(0, BASE + Maps.PACKET);
            setContext(4, BASE + Maps.PACKET + n);
            setContext(8, n);
        }

        private void enterProgram(int into) {
            slot = into;
            next = 0;
            depth = 0;
            Arrays.fill(regs, 0);
            regs[1] = BASE + Maps.CONTEXT;
            enterFrame();
        }

        private void enterFrame() {
            int place = Maps.STACKS + depth * Maps.STACK_BYTES;
            Arrays.fill(maps.room, place, place + Maps.STACK_BYTES, (byte) 0);
            regs[10] = BASE + place + Maps.STACK_BYTES;
        }

        void goFunction(int to) {
            if (depth + 1 >= Maps.FRAMES) {
                over = true;
                return;
            }
            System.arraycopy(regs, 0, saved, depth * 10, 10);
            backs[depth] = next;
            depth++;
            enterFrame();
            next = to;
        }

        void goBack() {
            if (depth == 0) {
                over = true;
                return;
            }
            depth--;
            System.arraycopy(saved, depth * 10 + 1, regs, 1, 9);
            regs[10] = BASE + Maps.STACKS + (depth + 1) * Maps.STACK_BYTES;
            next = backs[depth];
        }

        private void putNumber(int place, long x, int n) {
            for (int i = 0; i < n; i++) {
                maps.room[place + i] = (byte) (x >> 8 * i);
            }
        }

        /** Where n bytes are in the room; NONE: they are not all there. */
        private static int placeOf(long address, long n) {
            long place = address - BASE;
            return place < 0 || place > Maps.ROOM || n < 0 || n > Maps.ROOM - place ? NONE : (int) place;
        }

        long fetchNumber(long address, int n) {
            int place = placeOf(address, n);
            return place < 0 ? 0 : Form.number(maps.room, place, n);
        }

        void storeNumber(long address, long x, int n) {
            int place = placeOf(address, n);
            if (place >= 0) {
                putNumber(place, x, n);
            }
        }

        private void goWord() {
            if (next < 0 || next >= slots.count[slot]) {
                over = true;
                return;
            }
            long w = slots.code[slot][next];
            int op = Form.op(w);
            next++;
            steps++;
            switch (op & 7) {
                case 0:
                    goPair(w);
                    break;
                case 1:
                    long loaded = fetchNumber(regs[Form.src(w)] + Form.off(w), Form.bytes(op));
                    regs[Form.dst(w)] = (op & 0xE0) == 0x80 ? Form.extend(loaded, 8 * Form.bytes(op)) : loaded;
                    break;
                case 2:
                    storeNumber(regs[Form.dst(w)] + Form.off(w), Form.imm(w), Form.bytes(op));
                    break;
                case 3:
                    goStore(w);
                    break;
                case 5:
                case 6:
                    if (op == Form.CALL && Form.src(w) == 0) {
                        regs[0] = help(Form.imm(w));
                    } else {
                        goJump(w);
                    }
                    break;
                default:
                    goAlu(w);
                    break;
            }
        }

        private void goPair(long w) {
            if (Form.src(w) == 1) {
                regs[Form.dst(w)] = mapNumber(Form.imm(w));
            } else if (next < slots.count[slot]) {
                regs[Form.dst(w)] = w >>> 32 | slots.code[slot][next];
            }
            next++;
        }

        /** What programs see as a map. */
        static int mapNumber(int m) {
            return m + 1;
        }

        private void goAlu(long w) {
            int op = Form.op(w);
            int d = Form.dst(w);
            if ((op & 0xF0) == 0xD0) {
                regs[d] = Form.turn(op, Form.imm(w), regs[d]);
            } else {
                regs[d] = Form.operate(op, Form.off(w), regs[d], rightSide(w));
            }
        }

        private long rightSide(long w) {
            return (w & 8) != 0 ? regs[Form.src(w)] : Form.imm(w);
        }

        private void goStore(long w) {
            int op = Form.op(w);
            int s = Form.src(w);
            int n = Form.bytes(op);
            long address = regs[Form.dst(w)] + Form.off(w);
            if ((op & 0xE0) == 0x60) {
                storeNumber(address, regs[s], n);
                return;
            }
            int imm = Form.imm(w);
            long stood = fetchNumber(address, n);
            if (imm == 0xF1) {
                long lowest = n == 4 ? regs[0] & Form.F : regs[0];
                if (stood == lowest) {
                    storeNumber(address, regs[s], n);
                }
                regs[0] = stood;
                return;
            }
            storeNumber(address, imm == 0xE1 ? regs[s] : Form.operate(7 | imm & 0xF0, 0, stood, regs[s]), n);
            if ((imm & 1) != 0) {
                regs[s] = stood;
            }
        }

        private void goJump(long w) {
            int op = Form.op(w);
            switch (op) {
                case Form.GO:
                    next += Form.off(w);
                    break;
                case Form.GO_FAR:
                    next += Form.imm(w);
                    break;
                case Form.CALL:
                    goFunction(next + Form.imm(w));
                    break;
                case Form.EXIT:
                    goBack();
                    break;
                default:
                    if (Form.holds(op, regs[Form.dst(w)], rightSide(w))) {
                        next += Form.off(w);
                    }
                    break;
            }
        }

        /** What a helper answers, the steps being counted with its call. */
        long help(int helper) {
            switch (helper) {
                case 1:
                case 2:
                case 3:
                    return helpKeyed(helper);
                case 5:
                    return steps;
                case 6:
                    return addTrace(regs[1], regs[2]);
                case 7:
                    chance = chance * 6364136223846793005L + 1442695040888963407L;
                    return chance >>> 32;
                case 12:
                    return goTail();
                case 26:
                    return readPacket(regs[2], regs[3], regs[4]);
                case 44:
                    return movePacket((int) regs[2]);
                case 131:
                    return newRecord();
                case 132:
                case 133:
                    maps.endRecord(placeOf(regs[1], 0), helper == 132);
                    return 0;
                default:
                    return 0;
            }
        }

        /** The map that a number tells, if it is of this kind (or one of keys); else NONE. */
        private int mapOf(long number, int kind) {
            int m = number < 1 || number > 8 ? NONE : (int) number - 1;
            return maps.isKind(m, kind) ? m : NONE;
        }

        private long helpKeyed(int helper) {
            int m = regs[1] < 1 || regs[1] > 8 ? NONE : (int) regs[1] - 1;
            if (!maps.isKeyed(m)) {
                return 0;
            }
            int key = placeOf(regs[2], maps.keySize[m]);
            if (key < 0) {
                return 0;
            }
            if (helper == 1) {
                int entry = maps.findEntry(m, maps.room, key);
                return entry < 0 ? 0 : BASE + maps.valuePlace(m, entry);
            }
            if (helper == 3) {
                return maps.take(m, maps.room, key);
            }
            int value = placeOf(regs[3], maps.valueSize[m]);
            return value < 0 ? 0 : maps.update(m, maps.room, key, maps.room, value, regs[4]);
        }

        private long addTrace(long address, long n) {
            int place = placeOf(address, n);
            if (place >= 0) {
                int fits = (int) Math.min(n, TRACE_MOST - traceSize);
                System.arraycopy(maps.room, place, trace, traceSize, fits);
                traceSize += fits;
            }
            return n;
        }

        private long goTail() {
            int m = mapOf(regs[2], Maps.PROGRAMS);
            long index = regs[3];
            if (m < 0 || index < 0 || index >= maps.most[m] || tails >= TAILS_MOST) {
                return -1;
            }
            int to = maps.list[m * 16 + (int) index];
            if (!Slots.isSlot(to) || !slots.good[to]) {
                return -1;
            }
            tails++;
            enterProgram(to);
            return 0;
        }

        private long readPacket(long from, long address, long n) {
            int place = placeOf(address, n);
            if (place < 0) {
                return -14;
            }
            if (from < 0 || from > packetSize || n > packetSize - from) {
                Arrays.fill(maps.room, place, place + (int) n, (byte) 0);
                return -14;
            }
            System.arraycopy(maps.room, Maps.PACKET + (int) from, maps.room, place, (int) n);
            return 0;
        }

        private long movePacket(long by) {
            if (by > packetSize || packetSize - by > Maps.PACKET_MOST) {
                return -22;
            }
            int shift = (int) by;
            int from = Math.max(shift, 0);
            System.arraycopy(maps.room, Maps.PACKET + from, maps.room, Maps.PACKET + from - shift, packetSize - from);
            if (shift < 0) {
                Arrays.fill(maps.room, Maps.PACKET, Maps.PACKET - shift, (byte) 0);
            }
            setPacket(packetSize - shift);
            return 0;
        }

        private long newRecord() {
            int m = mapOf(regs[1], Maps.RECORDS);
            long n = regs[2];
            if (m < 0 || n < 1 || n > 64) {
                return 0;
            }
            int place = maps.newRecord(m, (int) n);
            return place < 0 ? 0 : BASE + place;
        }
    }

    /** Way 1: the code of a plain machine of sixteen registers of 64 bits, into which words are turned. */
    static final class Plain {
        private static final int SET = 0;
        private static final int MOVE = 1;
        private static final int ADD = 2;
        private static final int SUB = 3;
        private static final int MUL = 4;
        private static final int DIV = 5;
        private static final int REST = 6;
        private static final int DIV_SIGNED = 7;
        private static final int REST_SIGNED = 8;
        private static final int OR = 9;
        private static final int AND = 10;
        private static final int XOR = 11;
        private static final int SHL = 12;
        private static final int SHR = 13;
        private static final int SAR = 14;
        private static final int CUT = 15;
        private static final int EXTEND = 16;
        private static final int SWAP = 17;
        private static final int LOAD = 18;
        private static final int STORE = 19;
        private static final int IF_SAME = 20;
        private static final int IF_OTHER = 21;
        private static final int IF_ABOVE = 22;
        private static final int IF_NOT_BELOW = 23;
        private static final int IF_BITS = 24;
        private static final int IF_MORE = 25;
        private static final int IF_NOT_LESS = 26;
        private static final int GO = 27;
        private static final int FUNCTION = 28;
        private static final int BACK = 29;
        private static final int HELP = 30;

        /** Behind the operation's lowest 8 bits: how many bytes; that a step begins; that it leads to a word. */
        private static final int BYTES_AT = 8;
        private static final int STEP = 1 << 16;
        private static final int TO_WORD = 1 << 17;

        /** Registers that programs do not see. */
        private static final int T0 = 11;
        private static final int T1 = 12;
        private static final int T2 = 13;

        private static final int FIELDS = 4;
        private static final int PER_WORD = 6;

        /** Operation and three numbers, one behind the other. */
        private final int[][] codes = new int[Slots.PLACES][];
        private final int[] sizes = new int[Slots.PLACES];
        private final int[] starts = new int[Slots.WORDS_MOST];
        private int[] code;
        private int size;
        private int begun;

        /** Turns a slot's words, if its code is not that of them. */
        void turnProgram(Slots slots, int slot) {
            if (slots.turned[slot]) {
                return;
            }
            if (codes[slot] == null) {
                codes[slot] = new int[Slots.WORDS_MOST * PER_WORD * FIELDS];
            }
            code = codes[slot];
            size = 0;
            long[] words = slots.code[slot];
            int n = slots.count[slot];
            int i = 0;
            for (int turn = 0; turn < n && i < n; turn++) {
                starts[i] = size;
                begun = STEP;
                int span = Form.span(words, n, i);
                if (span == 2) {
                    starts[i + 1] = size;
                    turnPair(words[i], words[i + 1]);
                } else {
                    turnWord(words[i], i, n);
                }
                i += span == 2 ? 2 : 1;
            }
            for (int k = 0; k < size; k++) {
                int at = k * FIELDS;
                if ((code[at] & TO_WORD) != 0) {
                    code[at] -= TO_WORD;
                    code[at + 1] = starts[code[at + 1]];
                }
            }
            sizes[slot] = size;
            slots.turned[slot] = true;
        }

        private void emit(int operation, int a, int b, int c) {
            int at = size * FIELDS;
            code[at] = operation | begun;
            code[at + 1] = a;
            code[at + 2] = b;
            code[at + 3] = c;
            begun = 0;
            size++;
        }

        private void emitSet(int a, int x) {
            emit(SET, a, x, x >> 31);
        }

        private void turnPair(long w, long second) {
            if (Form.src(w) == 1) {
                emitSet(Form.dst(w), Runs.mapNumber(Form.imm(w)));
            } else {
                emit(SET, Form.dst(w), Form.imm(w), Form.imm(second));
            }
        }

        private void turnWord(long w, int i, int n) {
            switch (Form.op(w) & 7) {
                case 1:
                    turnLoad(w);
                    break;
                case 2:
                    emitSet(T0, Form.imm(w));
                    emitMemory(STORE, w, Form.dst(w), T0);
                    break;
                case 3:
                    turnStore(w);
                    break;
                case 5:
                case 6:
                    turnJump(w, Form.target(w, i, n));
                    break;
                default:
                    turnAlu(w);
                    break;
            }
        }

        private void emitMemory(int operation, long w, int a, int b) {
            emit(operation | Form.bytes(Form.op(w)) << BYTES_AT, a, b, Form.off(w));
        }

        private void turnLoad(long w) {
            int d = Form.dst(w);
            emitMemory(LOAD, w, d, Form.src(w));
            if ((Form.op(w) & 0xE0) == 0x80) {
                emit(EXTEND, d, d, 8 * Form.bytes(Form.op(w)));
            }
        }

        private void turnStore(long w) {
            int d = Form.dst(w);
            int s = Form.src(w);
            int imm = Form.imm(w);
            if ((Form.op(w) & 0xE0) == 0x60) {
                emitMemory(STORE, w, d, s);
                return;
            }
            emitMemory(LOAD, w, T0, d);
            if (imm == 0xF1) {
                emit(Form.bytes(Form.op(w)) == 4 ? CUT : MOVE, T1, 0, 0);
                emit(IF_OTHER, size + 2, T0, T1);
                emitMemory(STORE, w, d, s);
                emit(MOVE, 0, T0, 0);
                return;
            }
            if (imm == 0xE1) {
                emitMemory(STORE, w, d, s);
            } else {
                emit(operation(imm & 0xF0, 0), T1, T0, s);
                emitMemory(STORE, w, d, T1);
            }
            if ((imm & 1) != 0) {
                emit(MOVE, s, T0, 0);
            }
        }

        private static int operation(int code, int off) {
            switch (code) {
                case 0x00:
                    return ADD;
                case 0x10:
                    return SUB;
                case 0x20:
                    return MUL;
                case 0x30:
                    return off == 1 ? DIV_SIGNED : DIV;
                case 0x40:
                    return OR;
                case 0x50:
                    return AND;
                case 0x60:
                    return SHL;
                case 0x70:
                    return SHR;
                case 0x90:
                    return off == 1 ? REST_SIGNED : REST;
                case 0xA0:
                    return XOR;
                default:
                    return SAR;
            }
        }

        /** The register in which the right side is. */
        private int side(long w) {
            if ((w & 8) != 0) {
                return Form.src(w);
            }
            emitSet(T1, Form.imm(w));
            return T1;
        }

        /** A side of 32 bits comes into a register, with its sign or without. */
        private void emitHalf(int a, int b, boolean signs) {
            emit(signs ? EXTEND : CUT, a, b, 32);
        }

        private void turnAlu(long w) {
            int op = Form.op(w);
            int c = op & 0xF0;
            int d = Form.dst(w);
            boolean wide = (op & 7) == 7;
            if (c == 0xD0) {
                turnOrder(op, Form.imm(w), d);
            } else if (c == 0x80) {
                emitSet(T0, 0);
                emit(SUB, d, T0, d);
            } else if (c == 0xB0) {
                int bits = Form.off(w);
                emit(bits == 0 ? MOVE : EXTEND, d, side(w), bits);
            } else if (wide) {
                emit(operation(c, Form.off(w)), d, d, side(w));
            } else {
                turnHalf(w, side(w));
            }
            if (!wide && c != 0xD0) {
                emit(CUT, d, d, 0);
            }
        }

        private void turnHalf(long w, int y) {
            int c = Form.op(w) & 0xF0;
            int d = Form.dst(w);
            int what = operation(c, Form.off(w));
            switch (c) {
                case 0x30:
                case 0x90:
                    emitHalf(T0, d, Form.off(w) == 1);
                    emitHalf(T1, y, Form.off(w) == 1);
                    emit(what, d, T0, T1);
                    break;
                case 0x60:
                case 0x70:
                case 0xC0:
                    emitSet(T2, 31);
                    emit(AND, T1, y, T2);
                    emitHalf(T0, d, c == 0xC0);
                    emit(what, d, T0, T1);
                    break;
                default:
                    emit(what, d, d, y);
                    break;
            }
        }

        private void turnOrder(int op, int bits, int d) {
            if (op != 0xD4) {
                emit(SWAP, d, d, bits / 8);
            } else if (bits == 16) {
                emitSet(T0, 0xFFFF);
                emit(AND, d, d, T0);
            } else {
                emit(bits == 32 ? CUT : MOVE, d, d, 0);
            }
        }

        private void turnJump(long w, int to) {
            int op = Form.op(w);
            if (op == Form.EXIT) {
                emit(BACK, 0, 0, 0);
            } else if (op == Form.CALL && Form.src(w) == 0) {
                emit(HELP, Form.imm(w), 0, 0);
            } else if (to < 0) {
                emit(GO, -1, 0, 0);
            } else if (op == Form.CALL || op == Form.GO || op == Form.GO_FAR) {
                emit((op == Form.CALL ? FUNCTION : GO) | TO_WORD, to, 0, 0);
            } else {
                turnCondition(op, Form.dst(w), side(w), to);
            }
        }

        private void turnCondition(int op, int left, int right, int to) {
            int c = op & 0xF0;
            int x = left;
            int y = right;
            if ((op & 7) == 6) {
                boolean signs = c == 0x60 || c == 0x70 || c == 0xC0 || c == 0xD0;
                emitHalf(T0, x, signs);
                emitHalf(T1, y, signs);
                x = T0;
                y = T1;
            }
            // those below are those above of the sides exchanged
            boolean turned = c >= 0xA0;
            emit(condition(c) | TO_WORD, to, turned ? y : x, turned ? x : y);
        }

        private static int condition(int c) {
            switch (c) {
                case 0x10:
                    return IF_SAME;
                case 0x20:
                case 0xA0:
                    return IF_ABOVE;
                case 0x30:
                case 0xB0:
                    return IF_NOT_BELOW;
                case 0x40:
                    return IF_BITS;
                case 0x50:
                    return IF_OTHER;
                case 0x60:
                case 0xC0:
                    return IF_MORE;
                default:
                    return IF_NOT_LESS;
            }
        }

        /** The next operation of a run. */
        void goOn(Runs runs) {
            int[] turned = codes[runs.slot];
            if (turned == null || runs.next < 0 || runs.next >= sizes[runs.slot]) {
                runs.over = true;
                return;
            }
            int at = runs.next * FIELDS;
            int operation = turned[at];
            int a = turned[at + 1];
            int b = turned[at + 2];
            int c = turned[at + 3];
            runs.next++;
            if ((operation & STEP) != 0) {
                runs.steps++;
            }
            int n = operation >> BYTES_AT & 15;
            int what = operation & 255;
            if (what < IF_SAME) {
                goChange(runs, what, n, a, b, c);
            } else if (what < GO) {
                if (isSo(what, runs.regs[b], runs.regs[c])) {
                    runs.next = a;
                }
            } else if (what == GO) {
                runs.next = a;
            } else if (what == FUNCTION) {
                runs.goFunction(a);
            } else if (what == BACK) {
                runs.goBack();
            } else {
                runs.regs[0] = runs.help(a);
            }
        }

        private static boolean isSo(int what, long x, long y) {
            switch (what) {
                case IF_SAME:
                    return x == y;
                case IF_OTHER:
                    return x != y;
                case IF_ABOVE:
                    return Form.below(y, x);
                case IF_NOT_BELOW:
                    return !Form.below(x, y);
                case IF_BITS:
                    return (x & y) != 0;
                case IF_MORE:
                    return x > y;
                default:
                    return x >= y;
            }
        }

        private static void goChange(Runs runs, int what, int n, int a, int b, int c) {
            long[] regs = runs.regs;
            switch (what) {
                case SET:
                    regs[a] = (long) c << 32 | b & Form.F;
                    break;
                case MOVE:
                    regs[a] = regs[b];
                    break;
                case CUT:
                    regs[a] = regs[b] & Form.F;
                    break;
                case EXTEND:
                    regs[a] = Form.extend(regs[b], c);
                    break;
                case SWAP:
                    regs[a] = Form.reverse(regs[b], c);
                    break;
                case LOAD:
                    regs[a] = runs.fetchNumber(regs[b] + c, n);
                    break;
                case STORE:
                    runs.storeNumber(regs[a] + c, regs[b], n);
                    break;
                default:
                    regs[a] = operate(what, regs[b], regs[c]);
                    break;
            }
        }

        private static long operate(int what, long x, long y) {
            switch (what) {
                case ADD:
                    return x + y;
                case SUB:
                    return x - y;
                case MUL:
                    return x * y;
                case DIV:
                    return Form.divide(x, y);
                case REST:
                    return Form.rest(x, y);
                case DIV_SIGNED:
                    return Form.divideSigned(x, y);
                case REST_SIGNED:
                    return Form.restSigned(x, y);
                case OR:
                    return x | y;
                case AND:
                    return x & y;
                case XOR:
                    return x ^ y;
                case SHL:
                    return x << y;
                case SHR:
                    return x >>> y;
                default:
                    return x >> y;
            }
        }
    }

    /** What the judge knows of a NUMBER: bits, and ranges without and with sign. */
    static final class Num {
        private static final long LEAST = Long.MIN_VALUE;

        long v;
        long m;
        long u1;
        long u2;
        long s1;
        long s2;

        void setNumber(long c) {
            v = c;
            m = 0;
            u1 = c;
            u2 = c;
            s1 = c;
            s2 = c;
        }

        void setAny() {
            v = 0;
            m = -1;
            u1 = 0;
            u2 = -1;
            s1 = Long.MIN_VALUE;
            s2 = Long.MAX_VALUE;
        }

        void setWide(int bytes) {
            setAny();
            if (bytes < 8) {
                m = (1L << 8 * bytes) - 1;
                u2 = m;
                s1 = 0;
                s2 = m;
            }
        }

        private void wholeU() {
            u1 = 0;
            u2 = -1;
        }

        private void wholeS() {
            s1 = Long.MIN_VALUE;
            s2 = Long.MAX_VALUE;
        }

        void setSame(Num x) {
            v = x.v;
            m = x.m;
            u1 = x.u1;
            u2 = x.u2;
            s1 = x.s1;
            s2 = x.s2;
        }

        /** From the fields of a VALUE. */
        void fetch(long[] row, int at) {
            v = row[at + State.V];
            m = row[at + State.M];
            u1 = row[at + State.U1];
            u2 = row[at + State.U2];
            s1 = row[at + State.S1];
            s2 = row[at + State.S2];
        }

        void store(long[] row, int at) {
            row[at + State.V] = v;
            row[at + State.M] = m;
            row[at + State.U1] = u1;
            row[at + State.U2] = u2;
            row[at + State.S1] = s1;
            row[at + State.S2] = s2;
        }

        boolean isConstant() {
            return m == 0;
        }

        private static long greater(long x, long y) {
            return x + LEAST < y + LEAST ? y : x;
        }

        private static long lesser(long x, long y) {
            return x + LEAST < y + LEAST ? x : y;
        }

        private void rangesByBits() {
            u1 = u1 + LEAST < v + LEAST ? v : u1;
            u2 = u2 + LEAST < (v | m) + LEAST ? u2 : v | m;
            s1 = Math.max(s1, v | m & LEAST);
            s2 = Math.min(s2, v | m & ~LEAST);
        }

        /** False: it is NOTHING. */
        boolean tidy() {
            rangesByBits();
            if (s1 >= 0 || s2 < 0) {
                u1 = greater(u1, s1);
                u2 = lesser(u2, s2);
            }
            if ((u1 ^ u2) >= 0) {
                s1 = Math.max(s1, u1);
                s2 = Math.min(s2, u2);
            }
            long same = ~spread(u1 ^ u2);
            if (((v ^ u1) & same & ~m) != 0) {
                return false;
            }
            v |= u1 & same;
            m &= ~same;
            rangesByBits();
            return u1 + LEAST <= u2 + LEAST && s1 <= s2;
        }

        /** All bits from the highest one on. */
        private static long spread(long x) {
            long y = x | x >>> 1;
            y |= y >>> 2;
            y |= y >>> 4;
            y |= y >>> 8;
            y |= y >>> 16;
            return y | y >>> 32;
        }

        /** x CUT. */
        void setCut(Num x) {
            v = x.v & Form.F;
            m = x.m & Form.F;
            boolean same = x.u1 >>> 32 == x.u2 >>> 32;
            u1 = same ? x.u1 & Form.F : 0;
            u2 = same ? x.u2 & Form.F : Form.F;
            wholeS();
            tidy();
        }

        /** Whether an ALU instruction makes a number of x and y that is told without their parts, and then makes it. */
        boolean makeTold(int op, int off, Num x, Num y) {
            int code = op & 0xF0;
            boolean signs = off == 1 || code == 0xC0 && (op & 7) == 4;
            boolean extended = code == 0xB0;
            boolean both = (x.m == 0 || extended) && y.m == 0;
            if (both && (signs || extended || code == 0x20 || code == 0x30 || code == 0x90)) {
                setNumber(Form.operate(op, off, x.v, y.v));
                return true;
            }
            if (signs) {
                setAny();
            }
            return signs;
        }

        /** What the other ALU instructions (but 80, D4, DC, D7) make of x and y; of W ones both are CUT. */
        void combine(int op, int off, Num x, Num y) {
            int n = (int) y.v & ((op & 7) == 7 ? 63 : 31);
            switch (op & 0xF0) {
                case 0x00:
                    add(x, y);
                    break;
                case 0x10:
                    subtract(x, y);
                    break;
                case 0x20:
                    multiply(x, y);
                    break;
                case 0x30:
                    divide(x, y);
                    break;
                case 0x40:
                    or(x, y);
                    break;
                case 0x50:
                    and(x, y);
                    break;
                case 0x60:
                    shiftUp(x, y.m == 0, n);
                    break;
                case 0x70:
                    shiftDown(x, y.m == 0, n);
                    break;
                case 0x90:
                    rest(x, y);
                    break;
                case 0xA0:
                    m = x.m | y.m;
                    v = (x.v ^ y.v) & ~m;
                    wholeU();
                    wholeS();
                    break;
                case 0xB0:
                    setSigned(off);
                    break;
                default:
                    shiftSigned(x, y.m == 0, n);
                    break;
            }
        }

        void add(Num x, Num y) {
            long a = x.v + y.v;
            m = (x.m + y.m + a ^ a) | x.m | y.m;
            v = a & ~m;
            u1 = x.u1 + y.u1;
            u2 = x.u2 + y.u2;
            if (Form.below(u1, x.u1) || Form.below(u2, x.u2)) {
                wholeU();
            }
            s1 = x.s1 + y.s1;
            s2 = x.s2 + y.s2;
            if (((x.s1 ^ s1) & (y.s1 ^ s1)) < 0 || ((x.s2 ^ s2) & (y.s2 ^ s2)) < 0) {
                wholeS();
            }
        }

        private void subtract(Num x, Num y) {
            long a = x.v - y.v;
            m = (a + x.m ^ a - y.m) | x.m | y.m;
            v = a & ~m;
            u1 = x.u1 - y.u2;
            u2 = x.u2 - y.u1;
            if (Form.below(x.u1, y.u2)) {
                wholeU();
            }
            s1 = x.s1 - y.s2;
            s2 = x.s2 - y.s1;
            if (((x.s1 ^ y.s2) & (x.s1 ^ s1)) < 0 || ((x.s2 ^ y.s1) & (x.s2 ^ s2)) < 0) {
                wholeS();
            }
        }

        /** How many lowest bits are known to be 0. */
        private int lowestZeros() {
            long some = v | m;
            return Long.bitCount((some & -some) - 1);
        }

        private void multiply(Num x, Num y) {
            int zeros = x.lowestZeros() + y.lowestZeros();
            v = 0;
            m = zeros >= 64 ? 0 : -1L << zeros;
            u1 = x.u1 * y.u1;
            u2 = x.u2 * y.u2;
            if (x.u2 >>> 32 != 0 || y.u2 >>> 32 != 0) {
                wholeU();
            }
            wholeS();
        }

        private void divide(Num x, Num y) {
            boolean by = y.m == 0 && y.v != 0;
            v = 0;
            m = -1;
            u1 = by ? Form.divide(x.u1, y.v) : 0;
            u2 = by ? Form.divide(x.u2, y.v) : x.u2;
            wholeS();
        }

        private void rest(Num x, Num y) {
            v = 0;
            m = -1;
            u1 = 0;
            u2 = y.m == 0 && y.v != 0 ? lesser(x.u2, y.v - 1) : x.u2;
            wholeS();
        }

        private void or(Num x, Num y) {
            v = x.v | y.v;
            m = (x.m | y.m) & ~v;
            u1 = greater(x.u1, y.u1);
            u2 = v | m;
            wholeS();
        }

        private void and(Num x, Num y) {
            v = x.v & y.v;
            m = (x.v | x.m) & (y.v | y.m) & ~v;
            u1 = v;
            u2 = lesser(x.u2, y.u2);
            wholeS();
        }

        private void shiftUp(Num x, boolean constant, int n) {
            setAny();
            if (constant) {
                v = x.v << n;
                m = x.m << n;
                if (x.u2 << n >>> n == x.u2) {
                    u1 = x.u1 << n;
                    u2 = x.u2 << n;
                }
            }
        }

        private void shiftDown(Num x, boolean constant, int n) {
            setAny();
            if (constant) {
                v = x.v >>> n;
                m = x.m >>> n;
                u1 = x.u1 >>> n;
            }
            u2 = constant ? x.u2 >>> n : x.u2;
        }

        private void shiftSigned(Num x, boolean constant, int n) {
            setAny();
            if (constant) {
                v = x.v >> n;
                m = x.m >> n;
            }
            s1 = constant ? x.s1 >> n : Math.min(x.s1, 0);
            s2 = constant ? x.s2 >> n : Math.max(x.s2, -1);
        }

        /** Any number of so many bits (8, 16, 32), sign extended. */
        void setSigned(int bits) {
            setAny();
            s1 = -1L << bits - 1;
            s2 = ~s1;
        }

        /** D4, DC, D7. */
        void setTurned(int op, int bits, Num x) {
            if (x.m == 0) {
                setNumber(Form.turn(op, bits, x.v));
            } else {
                setWide(bits / 8);
            }
        }
    }

    /** A STATE of the judge; also one that is kept or that waits. */
    static final class State {
        static final int UNSET = 0;
        static final int NUMBER = 1;
        static final int CONTEXT = 2;
        static final int STACK = 3;
        static final int MAP = 4;
        static final int CELL = 5;
        static final int CELL_OR_0 = 6;
        static final int PACKET = 7;
        static final int END = 8;
        static final int RECORD = 9;
        static final int RECORD_OR_0 = 10;

        /** The fields of a VALUE; behind the kind those of the number (or the PART). */
        static final int V = 1;
        static final int M = 2;
        static final int U1 = 3;
        static final int U2 = 4;
        static final int S1 = 5;
        static final int S2 = 6;
        static final int OFF = 7;
        /** Frame, map or bytes. */
        static final int WHAT = 8;
        static final int REACH = 9;
        static final int TAG = 10;
        static final int FIELDS = 11;

        /** r0 .. r10; behind them the parts of the stack. */
        private static final int REGISTERS = 11;
        private static final int PARTS = 16;
        private static final int FRAME = (REGISTERS + PARTS) * FIELDS;
        private static final int FRAMES_MOST = 4;
        static final int HELD_MOST = 64;
        /** More TAGs than a state can have. */
        static final int PAIRS = 2 * (FRAMES_MOST * (REGISTERS + PARTS) + HELD_MOST) + 1;
        private static final int ALL_SET = 255;

        /** The VALUES; a part without one is UNSET, and has in V a bit for each byte that is set. */
        final long[] row = new long[FRAMES_MOST * FRAME];
        private final int[] back = new int[FRAMES_MOST];
        private final int[] held = new int[HELD_MOST];
        int frames;
        int holds;
        /** The word to go on at. */
        int at;
        /** The state kept latest on the way to this one, and how many instructions ago. */
        State latest;
        int ahead;
        /** Of one that is kept. */
        State following;
        int longest;
        boolean done;

        void begin() {
            frames = 1;
            holds = 0;
            at = 0;
            latest = null;
            ahead = 0;
            clearFrame(0);
            row[register(1)] = CONTEXT;
        }

        private void clearFrame(int f) {
            Arrays.fill(row, f * FRAME, (f + 1) * FRAME, 0);
            int stack = f * FRAME + 10 * FIELDS;
            row[stack] = STACK;
            row[stack + WHAT] = f;
        }

        void copy(State x) {
            frames = x.frames;
            holds = x.holds;
            at = x.at;
            latest = x.latest;
            ahead = x.ahead;
            System.arraycopy(x.row, 0, row, 0, x.frames * FRAME);
            System.arraycopy(x.back, 0, back, 0, FRAMES_MOST);
            System.arraycopy(x.held, 0, held, 0, x.holds);
        }

        /** Where a register of the uppermost frame is. */
        int register(int r) {
            return (frames - 1) * FRAME + r * FIELDS;
        }

        /** Where the part is that has this byte (-128 .. -1) of a frame's stack. */
        private static int part(long f, long a) {
            return (int) (f * FRAME + (REGISTERS + (a + 128 >> 3)) * FIELDS);
        }

        int kind(int place) {
            return (int) row[place];
        }

        void unset(int place) {
            Arrays.fill(row, place, place + FIELDS, 0);
        }

        void move(int from, int to) {
            System.arraycopy(row, from, row, to, FIELDS);
        }

        void setKind(int place, int kind, long what, int tag) {
            unset(place);
            row[place] = kind;
            row[place + WHAT] = what;
            row[place + TAG] = tag;
        }

        void setNumber(int place, Num x) {
            Arrays.fill(row, place, place + FIELDS, 0);
            row[place] = NUMBER;
            x.store(row, place);
        }

        void enterFrame(int behind) {
            back[frames] = behind;
            clearFrame(frames);
            int from = (frames - 1) * FRAME;
            System.arraycopy(row, from + FIELDS, row, from + FRAME + FIELDS, 5 * FIELDS);
            frames++;
        }

        /** The word to go on at. */
        int leaveFrame() {
            move(register(0), register(0) - FRAME);
            frames--;
            unsetArguments();
            return back[frames];
        }

        void unsetArguments() {
            for (int r = 1; r <= 5; r++) {
                unset(register(r));
            }
        }

        private boolean isWhole(long a, int n) {
            return n == 8 && (a & 7) == 0;
        }

        /** Where the VALUE is that these bytes of a stack are; NONE: there is none. */
        int wholeValue(long f, long a, int n) {
            int place = part(f, a);
            return isWhole(a, n) && row[place] != UNSET ? place : NONE;
        }

        /** The VALUE at a place comes to the stack as a whole part; false: these bytes are none. */
        boolean putWhole(long f, long a, int n, int from) {
            if (!isWhole(a, n)) {
                return false;
            }
            move(from, part(f, a));
            return true;
        }

        boolean putWholeNumber(long f, long a, int n, Num x) {
            if (!isWhole(a, n)) {
                return false;
            }
            setNumber(part(f, a), x);
            return true;
        }

        boolean allSet(long f, long a, long n) {
            for (long b = a; b < a + n; b++) {
                int place = part(f, b);
                boolean set = row[place] == UNSET ? (row[place + V] >> (b & 7) & 1) != 0 : row[place] == NUMBER;
                if (!set) {
                    return false;
                }
            }
            return true;
        }

        /** Of n bytes from a on the parts have bytes from now on, and the first ones are set. */
        void setBytes(long f, long a, long n, long first) {
            for (long b = a; b < a + n; b++) {
                int place = part(f, b);
                if (row[place] != UNSET) {
                    boolean number = row[place] == NUMBER;
                    unset(place);
                    row[place + V] = number ? ALL_SET : 0;
                }
                if (b < a + first) {
                    row[place + V] |= 1L << (b & 7);
                }
            }
        }

        boolean hold(int tag) {
            if (holds >= HELD_MOST) {
                return false;
            }
            held[holds] = tag;
            holds++;
            return true;
        }

        void release(int tag) {
            int kept = 0;
            for (int i = 0; i < holds; i++) {
                if (held[i] != tag) {
                    held[kept] = held[i];
                    kept++;
                }
            }
            holds = kept;
        }

        /** What was perhaps 0 is 0, or is not. */
        void settle(int tag, boolean zero, Num none) {
            for (int place = 0; place < frames * FRAME; place += FIELDS) {
                boolean cell = row[place] == CELL_OR_0;
                if (row[place + TAG] == tag && (cell || row[place] == RECORD_OR_0)) {
                    if (zero) {
                        setNumber(place, none);
                    } else {
                        setKind(place, cell ? CELL : RECORD, row[place + WHAT], cell ? 0 : tag);
                    }
                }
            }
            if (zero) {
                release(tag);
            }
        }

        void reachAtLeast(int tag, long reach) {
            for (int place = 0; place < frames * FRAME; place += FIELDS) {
                if (row[place] == PACKET && row[place + TAG] == tag) {
                    row[place + REACH] = Math.max(row[place + REACH], reach);
                }
            }
        }

        void unsetPackets() {
            for (int place = 0; place < frames * FRAME; place += FIELDS) {
                if (row[place] == PACKET || row[place] == END) {
                    unset(place);
                }
            }
        }

        void unsetRecords(int tag) {
            release(tag);
            for (int place = 0; place < frames * FRAME; place += FIELDS) {
                if (row[place] == RECORD && row[place + TAG] == tag) {
                    unset(place);
                }
            }
        }

        /** Whether this one COVERS x; pairs is for the TAGs that answer to one another. */
        boolean covers(State x, int[] pairs) {
            if (frames != x.frames || holds != x.holds) {
                return false;
            }
            pairs[0] = 0;
            for (int f = 1; f < frames; f++) {
                if (back[f] != x.back[f]) {
                    return false;
                }
            }
            for (int i = 0; i < holds; i++) {
                if (!answer(held[i], x.held[i], pairs)) {
                    return false;
                }
            }
            for (int place = 0; place < frames * FRAME; place += FIELDS) {
                if (!coversValue(place, x, pairs)) {
                    return false;
                }
            }
            return true;
        }

        private boolean coversValue(int place, State x, int[] pairs) {
            int kind = (int) row[place];
            if (kind == UNSET) {
                return coversUnset(place, x.row);
            }
            if (kind != x.row[place]) {
                return false;
            }
            if (kind == NUMBER) {
                return coversNumber(place, x.row);
            }
            return row[place + OFF] == x.row[place + OFF] && row[place + WHAT] == x.row[place + WHAT]
                    && row[place + REACH] <= x.row[place + REACH] && coversNumber(place, x.row)
                    && answer((int) row[place + TAG], (int) x.row[place + TAG], pairs);
        }

        private boolean coversUnset(int place, long[] other) {
            long set = row[place + V];
            if (set == 0 || other[place] == NUMBER) {
                return true;
            }
            return other[place] == UNSET && (set & ~other[place + V]) == 0;
        }

        private boolean coversNumber(int place, long[] other) {
            long bits = row[place + M];
            if ((other[place + M] & ~bits) != 0 || ((row[place + V] ^ other[place + V]) & ~bits) != 0) {
                return false;
            }
            return !Form.below(other[place + U1], row[place + U1]) && !Form.below(row[place + U2], other[place + U2])
                    && other[place + S1] >= row[place + S1] && other[place + S2] <= row[place + S2];
        }

        private static boolean answer(int mine, int other, int[] pairs) {
            if (mine == 0 || other == 0) {
                return mine == other;
            }
            int end = 1 + 2 * pairs[0];
            for (int i = 1; i < end; i += 2) {
                if (pairs[i] == mine || pairs[i + 1] == other) {
                    return pairs[i] == mine && pairs[i + 1] == other;
                }
            }
            if (end + 1 < PAIRS) {
                pairs[end] = mine;
                pairs[end + 1] = other;
                pairs[0]++;
            }
            return true;
        }
    }

    /** What one instruction makes of a state, or its fault. */
    static final class Steps {
        static final int GOOD = 0;
        static final int FORM = 1;
        static final int PLACE = 2;
        static final int UNSET = 3;
        static final int KIND = 4;
        static final int RANGE = 5;
        static final int BYTES = 6;
        static final int LEAK = 7;
        static final int CALL = 8;
        static final int CONTEXT = 9;
        static final int HELD = 10;
        static final int LOOP = 11;
        static final int MUCH = 12;
        static final int DEEP = 13;
        static final int NULL = 14;
        static final int MAP = 15;

        private static final int OFF_MOST = 4096;
        private static final int PART_MOST = 65535;
        private static final int FRAMES_MOST = 4;

        private final Maps maps;
        private State here;
        /** The state on the jump's way, when both ways are gone. */
        private State other;
        boolean both;
        /** The next word; NONE: the way ends. */
        int next;
        /** Where the jump leads. */
        int target;
        private long word;
        private int op;
        private int tags;
        private final Num zero = new Num();
        private final Num x = new Num();
        private final Num y = new Num();
        private final Num z = new Num();
        private final Num cutX = new Num();
        private final Num cutY = new Num();
        private final Num yesX = new Num();
        private final Num yesY = new Num();
        private final Num noX = new Num();
        private final Num noY = new Num();

        Steps(Maps maps) {
            this.maps = maps;
        }

        void begin() {
            tags = 0;
            zero.setNumber(0);
        }

        /** The instruction at the state's word; spare becomes the state on the other way. */
        int go(State state, State spare, long[] code) {
            here = state;
            other = spare;
            both = false;
            word = code[here.at];
            op = Form.op(word);
            next = here.at + 1;
            switch (op & 7) {
                case 0:
                    return next < code.length ? goPair(code[next]) : FORM;
                case 1:
                    return goLoad();
                case 2:
                    return goPut();
                case 3:
                    return (op & 0xE0) == 0x60 ? goPut() : goExchange();
                case 5:
                case 6:
                    if (op == Form.EXIT) {
                        return goExit();
                    }
                    if (op == Form.CALL) {
                        return Form.src(word) == 1 ? goFunction() : goHelper(Form.imm(word));
                    }
                    return goJump();
                default:
                    return goAlu();
            }
        }

        private int left() {
            return here.register(Form.dst(word));
        }

        private int right() {
            return here.register(Form.src(word));
        }

        private boolean hasRight() {
            return (op & 8) != 0;
        }

        private static boolean isNull(int kind) {
            return kind == State.CELL_OR_0 || kind == State.RECORD_OR_0;
        }

        /** Kinds that have an OFF, and bytes behind them. */
        private static boolean hasBytes(int kind) {
            return kind == State.STACK || kind == State.CELL || kind == State.PACKET || kind == State.RECORD;
        }

        private int goPair(long second) {
            int d = left();
            next++;
            if (Form.src(word) == 1) {
                if (!maps.isTold(Form.imm(word))) {
                    return MAP;
                }
                here.setKind(d, State.MAP, Form.imm(word), 0);
            } else {
                x.setNumber(word >>> 32 | second);
                here.setNumber(d, x);
            }
            return GOOD;
        }

        private int goAlu() {
            int code = op & 0xF0;
            boolean wide = (op & 7) == 7;
            boolean side = hasRight() && code != 0xD0;
            int d = left();
            int leftKind = code == 0xB0 ? State.NUMBER : here.kind(d);
            int rightKind = side ? here.kind(right()) : State.NUMBER;
            if (leftKind == State.UNSET || rightKind == State.UNSET) {
                return UNSET;
            }
            if (code == 0xB0 && wide && side && Form.off(word) == 0) {
                here.move(right(), d);
                return GOOD;
            }
            if (isNull(leftKind) || isNull(rightKind)) {
                return NULL;
            }
            if (leftKind == State.NUMBER && rightKind == State.NUMBER) {
                takeSides();
                operate(code, wide);
                here.setNumber(d, z);
                return GOOD;
            }
            return wide && code <= 0x10 ? movePointer(code == 0, leftKind, rightKind) : KIND;
        }

        /** The sides of an operation or jump of NUMBERs come to x and y. */
        private void takeSides() {
            x.fetch(here.row, left());
            if (hasRight()) {
                y.fetch(here.row, right());
            } else {
                y.setNumber(Form.imm(word));
            }
        }

        private void operate(int code, boolean wide) {
            if (code == 0xD0) {
                z.setTurned(op, Form.imm(word), x);
                return;
            }
            if (code == 0x80) {
                // minus x is 0 - x
                y.setSame(x);
                x.setNumber(0);
            }
            int as = code == 0x80 ? op & 15 | 0x10 : op;
            int off = Form.off(word);
            if (!wide) {
                cutX.setCut(x);
                cutY.setCut(y);
            }
            Num a = wide ? x : cutX;
            Num b = wide ? y : cutY;
            if (code == 0xB0 && off == 0) {
                z.setSame(b);
            } else {
                if (!z.makeTold(as, off, a, b)) {
                    z.combine(as, off, a, b);
                }
                z.tidy();
            }
            if (!wide) {
                x.setCut(z);
                z.setSame(x);
            }
        }

        private int movePointer(boolean plus, int leftKind, int rightKind) {
            boolean turned = leftKind == State.NUMBER;
            int kind = turned ? rightKind : leftKind;
            if (!hasBytes(kind) || turned && !plus || !turned && rightKind != State.NUMBER) {
                return KIND;
            }
            takeSides();
            Num by = turned ? x : y;
            if (by.isConstant()) {
                return moveOff(turned, plus ? by.v : -by.v);
            }
            if (!plus || kind == State.STACK) {
                return KIND;
            }
            int from = turned ? right() : left();
            z.fetch(here.row, from);
            cutX.add(z, by);
            cutX.tidy();
            if (Form.below(PART_MOST, cutX.u2)) {
                return RANGE;
            }
            int d = left();
            here.move(from, d);
            cutX.store(here.row, d);
            if (kind == State.PACKET) {
                here.row[d + State.REACH] = 0;
                here.row[d + State.TAG] = newTag();
            }
            return GOOD;
        }

        private int moveOff(boolean turned, long by) {
            int d = left();
            int from = turned ? right() : d;
            long off = here.row[from + State.OFF] + by;
            if (by < -2 * OFF_MOST || by > 2 * OFF_MOST || off < -OFF_MOST || off > OFF_MOST) {
                return RANGE;
            }
            here.move(from, d);
            here.row[d + State.OFF] = off;
            return GOOD;
        }

        private int newTag() {
            tags++;
            return tags;
        }

        /** Whether n bytes from the place's OFF and a on are there. */
        private boolean fits(int place, long a, long n) {
            long[] row = here.row;
            long from = row[place + State.OFF] + a;
            switch (here.kind(place)) {
                case State.STACK:
                    return from >= -Maps.STACK_BYTES && n <= Maps.STACK_BYTES && from <= -n;
                case State.PACKET:
                    return from >= 0 && from + n <= row[place + State.REACH];
                case State.CELL:
                    return fitsPart(place, from, n, maps.valueSize[(int) row[place + State.WHAT] & 7]);
                default:
                    return fitsPart(place, from, n, row[place + State.WHAT]);
            }
        }

        private boolean fitsPart(int place, long from, long n, long size) {
            return from + here.row[place + State.U1] >= 0 && from + here.row[place + State.U2] + n <= size;
        }

        private int goLoad() {
            int place = right();
            int kind = here.kind(place);
            int n = Form.bytes(op);
            int off = Form.off(word);
            boolean signs = (op & 0xE0) == 0x80;
            if (kind == State.UNSET) {
                return UNSET;
            }
            if (isNull(kind)) {
                return NULL;
            }
            if (kind == State.CONTEXT) {
                return op == 0x61 ? goLoadContext(off) : CONTEXT;
            }
            if (!hasBytes(kind)) {
                return KIND;
            }
            if (!fits(place, off, n)) {
                return RANGE;
            }
            if (kind == State.STACK) {
                long f = here.row[place + State.WHAT];
                long a = here.row[place + State.OFF] + off;
                int whole = here.wholeValue(f, a, n);
                if (whole >= 0) {
                    here.move(whole, left());
                    return GOOD;
                }
                if (!here.allSet(f, a, n)) {
                    return BYTES;
                }
            }
            if (signs) {
                x.setSigned(8 * n);
            } else {
                x.setWide(n);
            }
            here.setNumber(left(), x);
            return GOOD;
        }

        private int goLoadContext(int off) {
            switch (off) {
                case 0:
                    here.setKind(left(), State.PACKET, 0, 0);
                    return GOOD;
                case 4:
                    here.setKind(left(), State.END, 0, 0);
                    return GOOD;
                case 8:
                case 12:
                case 16:
                    x.setWide(4);
                    here.setNumber(left(), x);
                    return GOOD;
                default:
                    return CONTEXT;
            }
        }

        private int goPut() {
            int place = left();
            int kind = here.kind(place);
            boolean register = (op & 7) == 3;
            int valueKind = register ? here.kind(right()) : State.NUMBER;
            if (kind == State.UNSET || valueKind == State.UNSET) {
                return UNSET;
            }
            if (isNull(kind)) {
                return NULL;
            }
            if (kind == State.CONTEXT) {
                if (Form.bytes(op) != 4 || Form.off(word) != 12) {
                    return CONTEXT;
                }
            } else if (!hasBytes(kind)) {
                return KIND;
            } else if (!fits(place, Form.off(word), Form.bytes(op))) {
                return RANGE;
            }
            if (kind == State.STACK) {
                return goPutStack(place, register, valueKind);
            }
            return valueKind == State.NUMBER ? GOOD : LEAK;
        }

        private int goPutStack(int place, boolean register, int valueKind) {
            long f = here.row[place + State.WHAT];
            long a = here.row[place + State.OFF] + Form.off(word);
            int n = Form.bytes(op);
            if (valueKind == State.STACK && here.row[right() + State.WHAT] > f) {
                return LEAK;
            }
            if (register) {
                if (here.putWhole(f, a, n, right())) {
                    return GOOD;
                }
            } else {
                x.setNumber(Form.imm(word));
                if (here.putWholeNumber(f, a, n, x)) {
                    return GOOD;
                }
            }
            if (valueKind != State.NUMBER) {
                return LEAK;
            }
            here.setBytes(f, a, n, n);
            return GOOD;
        }

        private int goExchange() {
            int imm = Form.imm(word);
            boolean comparing = imm == 0xF1;
            int place = left();
            int kind = here.kind(place);
            int n = Form.bytes(op);
            int compared = comparing ? here.kind(here.register(0)) : State.NUMBER;
            int valueKind = here.kind(right());
            if (kind == State.UNSET || compared == State.UNSET || valueKind == State.UNSET) {
                return UNSET;
            }
            if (isNull(kind)) {
                return NULL;
            }
            if (kind != State.STACK && kind != State.CELL && kind != State.RECORD) {
                return KIND;
            }
            if (!fits(place, Form.off(word), n)) {
                return RANGE;
            }
            long f = here.row[place + State.WHAT];
            long a = here.row[place + State.OFF] + Form.off(word);
            if (kind == State.STACK && !here.allSet(f, a, n)) {
                return BYTES;
            }
            if (compared != State.NUMBER || valueKind != State.NUMBER) {
                return LEAK;
            }
            if (kind == State.STACK) {
                here.setBytes(f, a, n, n);
            }
            if ((imm & 1) != 0) {
                x.setWide(n);
                here.setNumber(comparing ? here.register(0) : right(), x);
            }
            return GOOD;
        }

        private int goFunction() {
            if (here.frames == FRAMES_MOST) {
                return DEEP;
            }
            here.enterFrame(next);
            next += Form.imm(word);
            return GOOD;
        }

        private int goExit() {
            int kind = here.kind(here.register(0));
            if (kind == State.UNSET) {
                return UNSET;
            }
            if (kind != State.NUMBER) {
                return LEAK;
            }
            if (here.frames > 1) {
                next = here.leaveFrame();
                return GOOD;
            }
            next = NONE;
            return here.holds > 0 ? HELD : GOOD;
        }

        private int goJump() {
            int code = op & 0xF0;
            if (code == 0) {
                next += op == Form.GO ? Form.off(word) : Form.imm(word);
                return GOOD;
            }
            target = next + Form.off(word);
            boolean wide = (op & 7) == 5;
            int leftKind = here.kind(left());
            int rightKind = hasRight() ? here.kind(right()) : State.NUMBER;
            if (leftKind == State.UNSET || rightKind == State.UNSET) {
                return UNSET;
            }
            boolean sameness = code == 0x10 || code == 0x50;
            if (wide && sameness && !hasRight() && Form.imm(word) == 0 && leftKind != State.NUMBER) {
                goNullTest(isNull(leftKind), code == 0x10);
                return GOOD;
            }
            if (isNull(leftKind) || isNull(rightKind)) {
                return NULL;
            }
            if (leftKind == State.NUMBER && rightKind == State.NUMBER) {
                if (!goNumbers(code, wide)) {
                    goNarrowed(code);
                }
                return GOOD;
            }
            boolean order = code == 0x20 || code == 0x30 || code == 0xA0 || code == 0xB0;
            boolean first = leftKind == State.PACKET && rightKind == State.END;
            if (wide && order && (first || leftKind == State.END && rightKind == State.PACKET)) {
                goPacketTest(code, first);
                return GOOD;
            }
            return KIND;
        }

        /** Both ways are gone, with the state as it is. */
        private void part() {
            both = true;
            other.copy(here);
        }

        private void goNullTest(boolean open, boolean same) {
            if (!open) {
                // it is not 0
                next = same ? next : target;
                return;
            }
            int tag = (int) here.row[left() + State.TAG];
            part();
            here.settle(tag, !same, zero);
            other.settle(tag, same, zero);
        }

        private void goPacketTest(int code, boolean first) {
            int place = first ? left() : right();
            int tag = (int) here.row[place + State.TAG];
            long off = here.row[place + State.OFF];
            boolean above = code == 0x20 || code == 0x30;
            boolean strict = code == 0x20 || code == 0xA0;
            part();
            // p > END, p >= END (or turned round) say where p is when it is not so
            boolean saysNo = above == first;
            State low = saysNo ? here : other;
            boolean below = saysNo != strict;
            low.reachAtLeast(tag, below ? off + 1 : off);
        }

        private static boolean isSigned(int code) {
            return code == 0x60 || code == 0x70 || code == 0xC0 || code == 0xD0;
        }

        /** A jump of two NUMBERs; false: it is not decided, and its sides (x and y) are NARROWED on each way. */
        private boolean goNumbers(int code, boolean wide) {
            takeSides();
            boolean signs = isSigned(code);
            cutX.setSame(x);
            cutY.setSame(y);
            if (!wide) {
                cutX.setCut(x);
                cutY.setCut(y);
            }
            int verdict = wide || !signs ? decide(code, cutX, cutY) : decideConstants();
            if (verdict != NONE) {
                next = verdict == 1 ? target : next;
                return true;
            }
            if (!hasRight()) {
                y.setSame(cutY);
            }
            boolean same = hasRight() && Form.src(word) == Form.dst(word);
            if (same || !wide && (signs || x.u2 >>> 32 != 0 || y.u2 >>> 32 != 0)) {
                part();
                return true;
            }
            return false;
        }

        /** 1: the condition is so, 0: it is not, NONE: not DECIDED. */
        private static int decide(int code, Num x, Num y) {
            switch (code) {
                case 0x10:
                    return same(x, y);
                case 0x50:
                    int same = same(x, y);
                    return same == NONE ? NONE : 1 - same;
                case 0x40:
                    return (x.v & y.v) != 0 ? 1 : ((x.v | x.m) & (y.v | y.m)) == 0 ? 0 : NONE;
                case 0x20:
                    return above(x.u1, x.u2, y.u1, y.u2);
                case 0x30:
                    return notBelow(x.u1, x.u2, y.u1, y.u2);
                case 0xA0:
                    return above(y.u1, y.u2, x.u1, x.u2);
                case 0xB0:
                    return notBelow(y.u1, y.u2, x.u1, x.u2);
                case 0x60:
                    return above(turned(x.s1), turned(x.s2), turned(y.s1), turned(y.s2));
                case 0x70:
                    return notBelow(turned(x.s1), turned(x.s2), turned(y.s1), turned(y.s2));
                case 0xC0:
                    return above(turned(y.s1), turned(y.s2), turned(x.s1), turned(x.s2));
                default:
                    return notBelow(turned(y.s1), turned(y.s2), turned(x.s1), turned(x.s2));
            }
        }

        /** In the order without sign stands for what this is in that with signs. */
        private static long turned(long x) {
            return x ^ Long.MIN_VALUE;
        }

        private static int same(Num x, Num y) {
            if (x.m == 0 && y.m == 0 && x.v == y.v) {
                return 1;
            }
            boolean bits = ((x.v ^ y.v) & ~x.m & ~y.m) != 0;
            boolean apart = Form.below(x.u2, y.u1) || Form.below(y.u2, x.u1) || x.s2 < y.s1 || y.s2 < x.s1;
            return bits || apart ? 0 : NONE;
        }

        private static int above(long x1, long x2, long y1, long y2) {
            return Form.below(y2, x1) ? 1 : !Form.below(y1, x2) ? 0 : NONE;
        }

        private static int notBelow(long x1, long x2, long y1, long y2) {
            return !Form.below(x1, y2) ? 1 : Form.below(x2, y1) ? 0 : NONE;
        }

        private int decideConstants() {
            if (!cutX.isConstant() || !cutY.isConstant()) {
                return NONE;
            }
            return Form.holds(op, cutX.v, cutY.v) ? 1 : 0;
        }

        private void narrowBoth(int code, boolean signs) {
            yesX.setSame(x);
            yesY.setSame(y);
            noX.setSame(x);
            noY.setSame(y);
            switch (code) {
                case 0x10:
                    meet(yesX, yesY);
                    avoid(noX, noY);
                    break;
                case 0x50:
                    avoid(yesX, yesY);
                    meet(noX, noY);
                    break;
                case 0x40:
                    narrowBits();
                    break;
                case 0x20:
                case 0x60:
                    order(yesX, yesY, signs, 1);
                    order(noY, noX, signs, 0);
                    break;
                case 0x30:
                case 0x70:
                    order(yesX, yesY, signs, 0);
                    order(noY, noX, signs, 1);
                    break;
                case 0xA0:
                case 0xC0:
                    order(yesY, yesX, signs, 1);
                    order(noX, noY, signs, 0);
                    break;
                default:
                    order(yesY, yesX, signs, 0);
                    order(noX, noY, signs, 1);
                    break;
            }
        }

        /** Both have what both know. */
        private static void meet(Num a, Num b) {
            a.v |= b.v;
            a.m &= b.m;
            a.u1 = Form.below(a.u1, b.u1) ? b.u1 : a.u1;
            a.u2 = Form.below(a.u2, b.u2) ? a.u2 : b.u2;
            a.s1 = Math.max(a.s1, b.s1);
            a.s2 = Math.min(a.s2, b.s2);
            b.setSame(a);
        }

        private static void avoid(Num a, Num b) {
            boolean constant = a.isConstant();
            long c = a.v;
            if (b.isConstant()) {
                avoidNumber(a, b.v);
            }
            if (constant) {
                avoidNumber(b, c);
            }
        }

        private static void avoidNumber(Num a, long c) {
            a.u1 += a.u1 == c ? 1 : 0;
            a.u2 -= a.u2 == c ? 1 : 0;
            a.s1 += a.s1 == c ? 1 : 0;
            a.s2 -= a.s2 == c ? 1 : 0;
        }

        private void narrowBits() {
            if (!y.isConstant()) {
                return;
            }
            if (Long.bitCount(y.v) == 1) {
                yesX.v |= y.v;
                yesX.m &= ~y.v;
            }
            noX.v &= ~y.v;
            noX.m &= ~y.v;
        }

        /** a is at least b and as much more as is told. */
        private static void order(Num a, Num b, boolean signs, int more) {
            if (signs) {
                long least = b.s1 + more;
                long most = a.s2 - more;
                a.s1 = Math.max(a.s1, least);
                b.s2 = Math.min(b.s2, most);
            } else {
                long least = b.u1 + more;
                long most = a.u2 - more;
                a.u1 = Form.below(a.u1, least) ? least : a.u1;
                b.u2 = Form.below(b.u2, most) ? b.u2 : most;
            }
        }

        private void goNarrowed(int code) {
            narrowBoth(code, isSigned(code));
            boolean fixed = !hasRight();
            boolean yes = yesX.tidy();
            boolean no = noX.tidy();
            if (!fixed) {
                yes = yesY.tidy() && yes;
                no = noY.tidy() && no;
            }
            if (yes && no) {
                part();
                putSides(other, yesX, yesY, fixed);
                putSides(here, noX, noY, fixed);
            } else if (yes) {
                next = target;
                putSides(here, yesX, yesY, fixed);
            } else if (no) {
                putSides(here, noX, noY, fixed);
            } else {
                next = NONE;
            }
        }

        private void putSides(State state, Num a, Num b, boolean fixed) {
            state.setNumber(left(), a);
            if (!fixed) {
                state.setNumber(right(), b);
            }
        }

        /** The arguments of a helper in the order in which they are looked at: a register, and what it must be. */
        private static String arguments(int helper) {
            switch (helper) {
                case 1:
                case 3:
                    return "1m2k";
                case 2:
                    return "1m2k3v4n";
                case 6:
                    return "2t1b";
                case 12:
                    return "1c2p3n";
                case 26:
                    return "1c2n4w3s";
                case 44:
                    return "1c2n";
                case 131:
                    return "1r2i3n";
                case 132:
                case 133:
                    return "1h2n";
                default:
                    return "";
            }
        }

        private int goHelper(int helper) {
            String wanted = arguments(helper);
            if (wanted.length() == 0 && helper != 5 && helper != 7) {
                return CALL;
            }
            for (int i = 0; i + 1 < wanted.length(); i += 2) {
                int fault = lookAt(here.register(wanted.charAt(i) - '0'), wanted.charAt(i + 1));
                if (fault != GOOD) {
                    return fault;
                }
            }
            if (helper == 12 && here.frames > 1) {
                return CALL;
            }
            if (helper == 12 && here.holds > 0) {
                return HELD;
            }
            return answer(helper);
        }

        private int lookAt(int place, int wanted) {
            int kind = here.kind(place);
            if (kind == State.UNSET) {
                return UNSET;
            }
            if (isNull(kind)) {
                return NULL;
            }
            switch (wanted) {
                case 'k':
                    return lookAtBytes(place, maps.keySize[mapOfFirst()]);
                case 'v':
                    return lookAtBytes(place, maps.valueSize[mapOfFirst()]);
                case 'b':
                    return lookAtBytes(place, here.row[here.register(2) + State.U2]);
                case 's':
                    if (kind != State.STACK) {
                        return CALL;
                    }
                    return fits(place, 0, here.row[here.register(4) + State.U2]) ? GOOD : RANGE;
                default:
                    return isWanted(place, kind, wanted) ? GOOD : CALL;
            }
        }

        private int mapOfFirst() {
            return (int) here.row[here.register(1) + State.WHAT] & 7;
        }

        private boolean isWanted(int place, int kind, int wanted) {
            long[] row = here.row;
            int m = (int) row[place + State.WHAT];
            switch (wanted) {
                case 'm':
                    return kind == State.MAP && maps.isKeyed(m);
                case 'p':
                    return kind == State.MAP && maps.isKind(m, Maps.PROGRAMS);
                case 'r':
                    return kind == State.MAP && maps.isKind(m, Maps.RECORDS);
                case 'c':
                    return kind == State.CONTEXT;
                case 't':
                    return kind == State.NUMBER && isBetween(place, 64);
                case 'w':
                    return kind == State.NUMBER && isBetween(place, Maps.STACK_BYTES);
                case 'i':
                    return kind == State.NUMBER && row[place + State.M] == 0 && row[place + State.V] >= 1
                            && row[place + State.V] <= 64;
                case 'h':
                    return kind == State.RECORD && row[place + State.OFF] == 0 && row[place + State.M] == 0
                            && row[place + State.V] == 0;
                default:
                    return kind == State.NUMBER;
            }
        }

        /** Whether a number is 1 at least and this at most. */
        private boolean isBetween(int place, long most) {
            return here.row[place + State.U1] != 0 && !Form.below(most, here.row[place + State.U2]);
        }

        private int lookAtBytes(int place, long n) {
            int kind = here.kind(place);
            if (!hasBytes(kind)) {
                return CALL;
            }
            if (!fits(place, 0, n)) {
                return RANGE;
            }
            if (kind == State.STACK && !here.allSet(here.row[place + State.WHAT], here.row[place + State.OFF], n)) {
                return BYTES;
            }
            return GOOD;
        }

        /** What the state is behind a helper. */
        private int answer(int helper) {
            int first = here.register(1);
            int second = here.register(2);
            int tag = (int) here.row[first + State.TAG];
            int m = mapOfFirst();
            long size = here.row[second + State.V];
            if (helper == 26) {
                fillStack();
            } else if (helper == 44) {
                here.unsetPackets();
            } else if (helper == 132 || helper == 133) {
                here.unsetRecords(tag);
            }
            here.unsetArguments();
            int zeroth = here.register(0);
            if (helper == 1) {
                here.setKind(zeroth, State.CELL_OR_0, m, newTag());
            } else if (helper == 131) {
                here.setKind(zeroth, State.RECORD_OR_0, size, newTag());
                return here.hold(tags) ? GOOD : MUCH;
            } else {
                x.setWide(helper == 7 ? 4 : 8);
                here.setNumber(zeroth, x);
            }
            return GOOD;
        }

        private void fillStack() {
            int place = here.register(3);
            int count = here.register(4);
            long least = here.row[count + State.U1];
            long most = here.row[count + State.U2];
            long first = Form.below(most, least) ? most : least;
            here.setBytes(here.row[place + State.WHAT], here.row[place + State.OFF], most, first);
        }
    }

    /** The judge: goes along all ways of a program. */
    static final class Judge {
        private static final int GONE_MOST = 4000;
        private static final int KEPT_MOST = 250;
        private static final int WAITS_MOST = 60;
        private static final int TURNS_MOST = 1000000;
        private static final int REGISTERS = 10;
        private static final int KNOWN = REGISTERS * State.FIELDS;

        /** What told() tells: the fault's word, gone, kept, LONGEST, most that waited, most frames. */
        private static final int WORD = 0;
        private static final int GONE = 1;
        private static final int KEPT = 2;
        private static final int LONGEST = 3;
        private static final int WAITED = 4;
        private static final int FRAMES = 5;

        private final Steps steps;
        final int[] facts = {NONE, 0, 0, 0, 0, 0};
        private final boolean[] seen = new boolean[Slots.WORDS_MOST];
        private final long[] known = new long[Slots.WORDS_MOST * KNOWN];
        private int n;
        /** Of each word whether it is an instruction, one where a function begins, a JOIN. */
        private final boolean[] leads = new boolean[Slots.WORDS_MOST];
        private final boolean[] begins = new boolean[Slots.WORDS_MOST];
        private final boolean[] joins = new boolean[Slots.WORDS_MOST];
        private final int[] functions = new int[Slots.WORDS_MOST];
        /** Rows of states are made when they are wanted first, and used again by later calls. */
        private final State[] kept = new State[KEPT_MOST];
        private final State[] waits = new State[WAITS_MOST];
        private int waiting;
        /** Of each word the first and the last state that are kept there. */
        private final State[] firsts = new State[Slots.WORDS_MOST];
        private final State[] lasts = new State[Slots.WORDS_MOST];
        private State here = new State();
        private State spare = new State();
        private final int[] pairs = new int[State.PAIRS];

        Judge(Maps maps) {
            steps = new Steps(maps);
        }

        void begin(int count) {
            n = count;
            Arrays.fill(facts, 0);
            facts[WORD] = NONE;
            waiting = 0;
            for (int i = 0; i < Slots.WORDS_MOST; i++) {
                seen[i] = false;
                leads[i] = false;
                begins[i] = false;
                joins[i] = false;
                firsts[i] = null;
                lasts[i] = null;
            }
            steps.begin();
        }

        long seenValue(int i, int r, int what) {
            if (i < 0 || i >= Slots.WORDS_MOST || r < 0 || r >= REGISTERS || what < 0 || what > State.REACH || !seen[i]) {
                return NONE;
            }
            return known[i * KNOWN + r * State.FIELDS + what];
        }

        private int fault(int which, int word) {
            facts[WORD] = word;
            facts[LONGEST] = 0;
            return which;
        }

        int findForm(long[] code) {
            int i = 0;
            for (int turn = 0; turn < n && i < n; turn++) {
                int span = Form.span(code, n, i);
                if (span == 0) {
                    return fault(Steps.FORM, i);
                }
                leads[i] = true;
                i += span;
            }
            return Steps.GOOD;
        }

        int findPlace(long[] code) {
            findFunctions(code);
            for (int i = 0; i < n; i++) {
                if (leads[i] && !isPlaced(code[i], i)) {
                    return fault(Steps.PLACE, i);
                }
            }
            return Steps.GOOD;
        }

        private void findFunctions(long[] code) {
            begins[0] = true;
            for (int i = 0; i < n; i++) {
                if (leads[i] && Form.callsFunction(code[i])) {
                    int to = Form.target(code[i], i, n);
                    if (to >= 0 && leads[to]) {
                        begins[to] = true;
                    }
                }
            }
            int function = 0;
            for (int i = 0; i < n; i++) {
                function = begins[i] ? i : function;
                functions[i] = function;
            }
        }

        private boolean isPlaced(long w, int i) {
            boolean jump = Form.leaps(w);
            if (jump || Form.callsFunction(w)) {
                int to = Form.target(w, i, n);
                if (to < 0 || !leads[to] || jump && functions[to] != functions[i]) {
                    return false;
                }
                joins[to] = joins[to] || jump;
            }
            int op = Form.op(w);
            int behind = i + (op == Form.PAIR ? 2 : 1);
            boolean ends = behind >= n || begins[behind];
            return !ends || op == Form.EXIT || op == Form.GO || op == Form.GO_FAR;
        }

        int walk(long[] code) {
            here.begin();
            keep();
            boolean first = true;
            for (int turn = 0; turn < TURNS_MOST; turn++) {
                int at = here.at;
                if (!first && joins[at]) {
                    State covering = findCovering(at);
                    if (covering != null) {
                        if (!covering.done) {
                            return fault(Steps.LOOP, at);
                        }
                        if (!endWay(covering.longest)) {
                            return Steps.GOOD;
                        }
                        continue;
                    }
                    if (facts[KEPT] == KEPT_MOST) {
                        return fault(Steps.MUCH, at);
                    }
                    keep();
                }
                first = false;
                if (facts[GONE] == GONE_MOST) {
                    return fault(Steps.MUCH, at);
                }
                note(at);
                int which = steps.go(here, spare, code);
                if (which != Steps.GOOD || steps.both && waiting == WAITS_MOST) {
                    return fault(which != Steps.GOOD ? which : Steps.MUCH, at);
                }
                if (!goOn()) {
                    return Steps.GOOD;
                }
            }
            return fault(Steps.MUCH, here.at);
        }

        /** An instruction is gone, and what is known ahead of it is noted. */
        private void note(int at) {
            facts[GONE]++;
            here.ahead++;
            facts[FRAMES] = Math.max(facts[FRAMES], here.frames);
            System.arraycopy(here.row, here.register(0), known, at * KNOWN, KNOWN);
            seen[at] = true;
        }

        /** Behind an instruction; false: the walk is over. */
        private boolean goOn() {
            facts[FRAMES] = Math.max(facts[FRAMES], here.frames);
            if (steps.both) {
                spare.at = steps.target;
                State unused = waits[waiting];
                waits[waiting] = spare;
                spare = unused == null ? new State() : unused;
                waiting++;
                facts[WAITED] = Math.max(facts[WAITED], waiting);
            }
            if (steps.next < 0) {
                return endWay(0);
            }
            here.at = steps.next;
            return true;
        }

        private State findCovering(int at) {
            for (State state = firsts[at]; state != null; state = state.following) {
                if (state.covers(here, pairs)) {
                    return state;
                }
            }
            return null;
        }

        private void keep() {
            int index = facts[KEPT];
            if (kept[index] == null) {
                kept[index] = new State();
            }
            State state = kept[index];
            state.copy(here);
            state.following = null;
            state.longest = 0;
            state.done = false;
            if (lasts[here.at] == null) {
                firsts[here.at] = state;
            } else {
                lasts[here.at].following = state;
            }
            lasts[here.at] = state;
            here.latest = state;
            here.ahead = 0;
            facts[KEPT]++;
        }

        /** The way at hand ends, so many instructions being put behind it; false: none waits. */
        private boolean endWay(int behind) {
            State latest = here.latest;
            if (latest != null) {
                latest.longest = Math.max(latest.longest, here.ahead + behind);
            }
            State resumed = waiting == 0 ? null : waits[waiting - 1];
            if (resumed == null) {
                closeBack(null);
                facts[LONGEST] = kept[0] == null ? 0 : kept[0].longest;
                return false;
            }
            waiting--;
            closeBack(resumed.latest);
            waits[waiting] = here;
            here = resumed;
            return true;
        }

        /** The states kept on the way behind this one are DONE. */
        private void closeBack(State until) {
            State state = here.latest;
            for (int turn = 0; turn < KEPT_MOST && state != null && state != until; turn++) {
                state.done = true;
                if (state.latest != null) {
                    state.latest.longest = Math.max(state.latest.longest, state.ahead + state.longest);
                }
                state = state.latest;
            }
        }
    }
}
