import java.util.ArrayList;
import java.util.Arrays;
import java.util.List;

/**
 * Programs made by dice that use all that programs can have: it is minded what registers probably hold, so that many
 * are taken, and many have a fault far behind their beginning.
 */
final class Maker {
    /** The maps that the programs go by: map m is told so; 7 is not told. */
    static final int[][] MAPS = {
        {0, 4, 16, 6}, {1, 4, 8, 3}, {2, 0, 0, 5}, {3, 0, 0, 3}, {1, 9, 24, 16}, {0, 4, 3, 2}, {3, 0, 0, 1},
    };

    private static final char NOTHING = ' ';
    private static final char NUMBER = 'n';
    private static final char CONTEXT = 'c';
    private static final char STACK = 's';
    private static final char MAP = 'm';
    private static final char CELL = 'v';
    private static final char CELL_OR_0 = 'V';
    private static final char PACKET = 'p';
    private static final char END = 'e';
    private static final char RECORD = 'r';
    private static final char RECORD_OR_0 = 'R';

    private static final int[] ALU = {0x00, 0x10, 0x20, 0x30, 0x40, 0x50, 0x60, 0x70, 0x90, 0xA0, 0xB0, 0xC0};
    private static final int[] JUMPS = {0x10, 0x20, 0x30, 0x40, 0x50, 0x60, 0x70, 0xA0, 0xB0, 0xC0, 0xD0};
    private static final int[] SIZES = {0x00, 0x08, 0x10, 0x18};

    private final Dice dice;
    private final List<Long> words = new ArrayList<>();
    /** What registers probably hold. */
    private char[] kinds = new char[11];
    /** Jumps that lead nowhere yet. */
    private List<Integer> open = new ArrayList<>();
    /** Calls of functions: the word, which one. */
    private final List<int[]> calls = new ArrayList<>();
    private int depth = 0;
    /** Of so many pieces one is any instruction at all. */
    private final int wild;
    /** Whether places are mostly those that are there. */
    private final boolean careful;
    /** How many bytes are there for sure, as far as is minded: behind the packet's pointers, in a cell, in a record. */
    private int reach = 0;
    private int cell = 0;
    private int record = 0;

    private Maker(long seed) {
        dice = new Dice(seed);
        wild = dice.of(8, 30, 60, 200, 100000, 100000);
        careful = dice.odds(3, 4);
    }

    static long[] program(long seed) {
        Maker m = new Maker(seed);
        if (m.dice.odds(1, 20)) {
            m.limits();
        } else {
            m.whole();
        }
        int n = Math.min(200, m.words.size());
        long[] code = new long[n];
        for (int i = 0; i < n; i++) {
            code[i] = m.words.get(i);
        }
        return code;
    }

    private void add(int op, int d, int s, int off, long imm) {
        words.add((op & 0xFFL) | (long) d << 8 | (long) s << 12 | (off & 0xFFFFL) << 16 | imm << 32);
    }

    private void set(int r, long imm) {
        add(0xB7, r, 0, 0, imm);
        kinds[r] = NUMBER;
    }

    private void move(int to, int from) {
        add(0xBF, to, from, 0, 0);
        kinds[to] = kinds[from];
    }

    private void whole() {
        body(dice.of(3, 8, 15, 25, 40), true);
        int[] begins = new int[3];
        for (int f = 0; f < 3 && words.size() < 190; f++) {
            depth++;
            if (isCalled(f)) {
                begins[f] = words.size();
                body(dice.of(1, 3, 6), false);
            }
        }
        // one that has no place is the program's beginning
        for (int[] call : calls) {
            long far = begins[call[1]] - call[0] - 1;
            words.set(call[0], words.get(call[0]) & 0xFFFFFFFFL | far << 32);
        }
        if (dice.odds(1, 40)) {
            words.set(dice.below(words.size()), dice.bits());
        }
    }

    /** Near to the most that the judge goes: instructions, states kept, ways that wait, records held. */
    private void limits() {
        set(8, 0);
        switch (dice.below(4)) {
            case 0:
                // each of these ways waits till the end
                add(0x85, 0, 0, 0, 7);
                int n = 57 + dice.below(7);
                for (int i = 0; i < n; i++) {
                    open.add(words.size());
                    add(0x25, 0, 0, 0, 1000 - i);
                }
                break;
            case 1:
                repeat(57 + dice.below(7), 6);
                break;
            case 2:
                repeat(dice.of(62, 63, 64, 65, 66), 7);
                break;
            default:
                int body = dice.of(0, 1, 12, 13, 13, 14, 15);
                repeat(dice.of(244, 248, 249, 250, 251, 252), body < 2 ? 0 : body - 10);
                break;
        }
        landAll();
        set(0, 1);
        add(0x95, 0, 0, 0, 0);
    }

    /** A loop that is gone n times; its body: so many operations, or 6: a way waits, or 7: a record is held. */
    private void repeat(int n, int body) {
        int begin = words.size();
        if (body == 6) {
            add(0x85, 0, 0, 0, 7);
            open.add(words.size());
            add(0x15, 0, 0, 0, 5);
        } else if (body == 7) {
            mapArgument(1, 3);
            set(2, 8);
            set(3, 0);
            add(0x85, 0, 0, 0, 131);
        } else {
            for (int i = 0; i < (body == 0 ? dice.below(3) : body + 10); i++) {
                set(7, i);
            }
        }
        add(0x07, 8, 0, 0, 1);
        add(0xA5, 8, 0, begin - words.size() - 1, n);
    }

    private boolean isCalled(int f) {
        for (int[] call : calls) {
            if (call[1] == f) {
                return true;
            }
        }
        return false;
    }

    /** A program's first frame, or a function. */
    private void body(int pieces, boolean main) {
        kinds = new char[11];
        Arrays.fill(kinds, NOTHING);
        kinds[10] = STACK;
        open = new ArrayList<>();
        if (main) {
            kinds[1] = CONTEXT;
            if (dice.odds(5, 6)) {
                move(9, 1);
            }
        } else {
            for (int r = 1; r <= 5; r++) {
                kinds[r] = NUMBER;
            }
            set(0, dice.below(5));
        }
        if (dice.odds(2, 3)) {
            packetPointers();
        }
        int most = main ? 165 : words.size() + 40;
        for (int i = 0; i < pieces && words.size() < Math.min(most, 180); i++) {
            piece();
            land();
        }
        if (dice.odds(4, 5)) {
            endRecords();
        }
        landAll();
        if (dice.odds(2, 3) || kinds[0] != NUMBER) {
            set(0, dice.below(100));
        }
        add(0x95, 0, 0, 0, 0);
    }

    private void land() {
        while (!open.isEmpty() && dice.odds(1, 3)) {
            landAt(open.remove(dice.below(open.size())));
        }
    }

    private void landAll() {
        for (int i : open) {
            landAt(i);
        }
        open.clear();
    }

    private void landAt(int i) {
        long far = words.size() - i - 1;
        words.set(i, words.get(i) & ~0xFFFF0000L | (far & 0xFFFF) << 16);
    }

    private int find(char... some) {
        int from = dice.below(11);
        for (int k = 0; k < 11; k++) {
            int r = (from + k) % 11;
            for (char kind : some) {
                if (kinds[r] == kind) {
                    return r;
                }
            }
        }
        return -1;
    }

    private int numberRegister() {
        int r = find(NUMBER);
        if (r < 0 || dice.odds(1, 6)) {
            r = spare();
            number(r);
        }
        return r;
    }

    /** A register that may be overwritten. */
    private int spare() {
        int r = dice.below(9);
        return kinds[r] == RECORD || kinds[r] == CONTEXT ? 8 : r;
    }

    private void number(int r) {
        switch (dice.below(7)) {
            case 0:
                long c = dice.number();
                add(0x18, r, 0, 0, c);
                add(0, 0, 0, 0, c >>> 32);
                break;
            case 1:
                int context = find(CONTEXT);
                if (context >= 0) {
                    add(0x61, r, context, dice.of(8, 12, 16), 0);
                    break;
                }
                set(r, dice.below(20));
                break;
            case 2:
                add(0xB4, r, 0, 0, (int) dice.number());
                break;
            case 3:
                add(0x85, 0, 0, 0, dice.of(5, 7));
                afterHelper(NUMBER);
                if (r != 0) {
                    move(r, 0);
                }
                break;
            default:
                set(r, dice.odds(1, 2) ? dice.below(33) : (int) dice.number());
                break;
        }
        kinds[r] = NUMBER;
    }

    private void afterHelper(char answer) {
        for (int r = 1; r <= 5; r++) {
            kinds[r] = NOTHING;
        }
        kinds[0] = answer;
    }

    private void piece() {
        if (dice.odds(1, wild)) {
            anyWord();
            return;
        }
        switch (dice.below(24)) {
            case 0:
                number(spare());
                break;
            case 1:
            case 2:
            case 3:
                operation();
                break;
            case 4:
            case 5:
                condition();
                break;
            case 6:
                packetPointers();
                break;
            case 7:
                packetCheck();
                break;
            case 8:
                packetVariable();
                break;
            case 9:
            case 10:
                access();
                break;
            case 11:
                exchange();
                break;
            case 12:
            case 13:
                lookup();
                break;
            case 14:
                change();
                break;
            case 15:
                record();
                break;
            case 16:
                trace();
                break;
            case 17:
                bytes();
                break;
            case 18:
                moveOrTail();
                break;
            case 19:
                function();
                break;
            case 20:
                loop();
                break;
            case 21:
                spill();
                break;
            case 22:
                pointer();
                break;
            default:
                stackBytes();
                break;
        }
    }

    private void anyWord() {
        int op = dice.of(dice.below(256), dice.of(ALU) | dice.of(4, 7, 12, 15), dice.of(JUMPS) | dice.of(5, 6, 13, 14),
                dice.of(0x61, 0x62, 0x63, 0x81) | dice.of(SIZES), 0x85, 0x95, 0x05);
        int imm = dice.of(0, 0, 1, 5, 8, 64, dice.below(300));
        if (op == 0x85 || op == 0x05 || op == 0x95) {
            add(op, 0, 0, op == 0x05 ? dice.of(0, 1, 2, -3) : 0, op == 0x85 ? imm : 0);
            Arrays.fill(kinds, 1, 6, NOTHING);
            return;
        }
        boolean side = (op & 8) != 0 && (op & 7) >= 4 || (op & 7) == 1 || (op & 7) == 3;
        int s = side ? dice.below(11) : dice.odds(1, 10) ? 1 : 0;
        int off = (op & 7) == 5 || (op & 7) == 6 ? dice.of(0, 1, 2, -3) : (op & 7) < 4 ? dice.of(0, 4, 8, -8, -16) : 0;
        add(op, dice.below(11), s, off, side ? 0 : imm);
        Arrays.fill(kinds, 0, 6, dice.odds(1, 2) ? NUMBER : NOTHING);
    }

    private void operation() {
        int d = numberRegister();
        int low = dice.odds(2, 3) ? 7 : 4;
        int code = dice.of(ALU);
        switch (dice.below(8)) {
            case 0:
                add(0x80 + low, d, 0, 0, 0);
                return;
            case 1:
                add(dice.of(0xD4, 0xDC, 0xD7), d, 0, 0, dice.of(16, 32, 64));
                return;
            case 2:
                add(0xB8 + low, d, numberRegister(), low == 7 ? dice.of(8, 16, 32) : dice.of(8, 16), 0);
                return;
            case 3:
                // few bits are left
                add(0x57, d, 0, 0, dice.of(1, 3, 7, 15, 31, 63, 255, 0xFFFF, 56));
                return;
            default:
                break;
        }
        int off = (code == 0x30 || code == 0x90) && dice.odds(1, 3) ? 1 : 0;
        if (dice.odds(1, 2)) {
            add(code + 8 + low, d, numberRegister(), off, 0);
        } else {
            boolean shift = code == 0x60 || code == 0x70 || code == 0xC0;
            int imm = shift ? dice.below(low == 7 ? 64 : 32) : dice.odds(1, 2) ? dice.below(70) + 1 : (int) dice.number();
            add(code + low, d, 0, off, imm == 0 && !shift ? 1 : imm);
        }
    }

    private void condition() {
        int d = numberRegister();
        int code = dice.of(JUMPS) + dice.of(5, 5, 6);
        int at;
        if (dice.odds(1, 3)) {
            int s = numberRegister();
            at = words.size();
            add(code + 8, d, s, 0, 0);
        } else {
            at = words.size();
            add(code, d, 0, 0, dice.odds(2, 3) ? dice.below(40) : (int) dice.number());
        }
        open.add(at);
        if (dice.odds(1, 8)) {
            open.add(words.size());
            add(0x05, 0, 0, 0, 0);
            landAt(at);
            open.remove(Integer.valueOf(at));
        }
    }

    private void packetPointers() {
        int context = find(CONTEXT);
        if (context < 0) {
            return;
        }
        add(0x61, 7, context, 0, 0);
        kinds[7] = PACKET;
        add(0x61, 8, context, 4, 0);
        kinds[8] = END;
        if (dice.odds(3, 4)) {
            packetCheck();
        }
    }

    private void packetCheck() {
        int p = find(PACKET);
        int e = find(END);
        if (p < 0 || e < 0) {
            return;
        }
        int t = dice.below(6);
        if (kinds[t] == CONTEXT) {
            t = 0;
        }
        move(t, p);
        reach = dice.of(1, 2, 4, 8, 14, 20, dice.below(64));
        add(0x07, t, 0, 0, reach);
        compareEnd(t, e);
        kinds[t] = careful ? NOTHING : kinds[t];
    }

    private void compareEnd(int p, int e) {
        boolean first = dice.odds(1, 2);
        // mostly so that it goes on where the packet is long enough
        int code = dice.odds(5, 6) ? first ? dice.of(0x20, 0x30) : dice.of(0xA0, 0xB0) : dice.of(0x20, 0x30, 0xA0, 0xB0);
        open.add(words.size());
        add(code + 0x0D, first ? p : e, first ? e : p, 0, 0);
    }

    /** A number that is not constant comes to a pointer; with a packet's the end is looked at again. */
    private void packetVariable() {
        int p = find(PACKET, CELL, RECORD);
        if (p < 0 || p == 10) {
            return;
        }
        int x = numberRegister();
        add(0x57, x, 0, 0, dice.of(1, 3, 7, 12, 15, 60));
        if (dice.odds(1, 3)) {
            int t = spare();
            if (t != p && t != x) {
                move(t, p);
                p = t;
            }
        }
        add(0x0F, p, x, 0, 0);
        int e = find(END);
        if (kinds[p] == PACKET && e >= 0 && dice.odds(5, 6)) {
            int t = dice.odds(1, 2) ? p : dice.below(6);
            if (t != p) {
                move(t, p);
            }
            add(0x07, t, 0, 0, dice.of(1, 4, 8, 20));
            compareEnd(t, e);
            if (t == p) {
                add(0x07, t, 0, 0, -dice.of(1, 4, 8));
            }
        }
    }

    /** Where n bytes are likely to be, from what a register holds on. */
    private int offset(int p, int n) {
        int bytes = kinds[p] == PACKET ? reach : kinds[p] == CELL ? cell : record;
        if (kinds[p] == STACK) {
            return -n * (1 + dice.below(6)) - dice.of(0, 0, 0, 2, 1);
        }
        if (careful && n <= bytes && dice.odds(29, 30)) {
            return dice.below(bytes - n + 1);
        }
        return dice.odds(4, 5) ? dice.of(0, n, 0, 1, 8) : dice.below(20) - 3;
    }

    private static int bytes(int size) {
        return new int[] {4, 2, 1, 8}[size / 8];
    }

    private void access() {
        int p = find(PACKET, STACK, CELL, RECORD, STACK, CELL, RECORD);
        int context = find(CONTEXT);
        if (context >= 0 && (p < 0 || dice.odds(1, 8))) {
            accessContext(context);
            return;
        }
        if (p < 0) {
            return;
        }
        int size = dice.of(SIZES);
        int off = offset(p, bytes(size));
        int kind = dice.below(4);
        if (kind == 0 || kind == 3 || careful && kinds[p] == STACK) {
            add(0x63 + size, p, numberRegister(), off, 0);
        }
        switch (kind) {
            case 0:
            case 3:
                int d = spare();
                add((size != 0x18 && dice.odds(1, 3) ? 0x81 : 0x61) + size, d, p, off, 0);
                kinds[d] = NUMBER;
                break;
            case 1:
                add(0x62 + size, p, 0, off, (int) dice.number());
                break;
            default:
                int s = dice.odds(1, 8) && !careful ? dice.below(11) : numberRegister();
                add(0x63 + size, p, s, off, 0);
                break;
        }
    }

    private void accessContext(int c) {
        boolean odd = dice.odds(1, careful ? 60 : 6);
        if (odd) {
            add(dice.of(0x61, 0x62, 0x63, 0x81) + dice.of(SIZES), c, c, dice.of(0, 8, 12, 16, 20, 2), 0);
        } else if (dice.odds(1, 2)) {
            add(0x63, c, numberRegister(), 12, 0);
        } else {
            int d = spare();
            add(0x61, d, c, dice.of(8, 12, 16), 0);
            kinds[d] = NUMBER;
        }
    }

    private void exchange() {
        int p = find(STACK, CELL, RECORD, CELL, RECORD);
        if (p < 0) {
            return;
        }
        int size = dice.of(0, 0x18);
        int n = size == 0 ? 4 : 8;
        int off = kinds[p] == STACK && p != 10 ? -n : offset(p, n);
        int s = numberRegister();
        if (kinds[p] == STACK && dice.odds(9, 10)) {
            add(0x62 + size, p, 0, off, dice.below(50));
        }
        int imm = dice.of(0, 0x40, 0x50, 0xA0, 1, 0x41, 0x51, 0xA1, 0xE1, 0xF1);
        if (imm == 0xF1 && kinds[0] != NUMBER) {
            set(0, dice.below(3));
        }
        add(size == 0 ? 0xC3 : 0xDB, p, s, off, imm);
    }

    private void keyOnStack(int m, int off) {
        int n = MAPS[m][1];
        add(n == 4 ? 0x62 : 0x7A, 10, 0, off, dice.below(5));
        if (n == 9) {
            add(0x72, 10, 0, off + 8, dice.below(2));
        }
        int x = find(NUMBER);
        if (x >= 0 && dice.odds(1, 3)) {
            add(0x73, 10, x, off, 0);
        }
    }

    private void argument(int r, int off) {
        move(r, 10);
        add(0x07, r, 0, 0, off);
    }

    private void mapArgument(int r, int m) {
        add(0x18, r, 1, 0, m);
        add(0, 0, 0, 0, 0);
        kinds[r] = MAP;
    }

    private int keyedMap() {
        return dice.odds(1, 40) ? dice.below(8) : dice.of(0, 1, 4, 5);
    }

    private void lookup() {
        int m = keyedMap();
        int off = dice.of(-16, -24, -40);
        if (m < 7 && MAPS[m][1] > 0 && !dice.odds(1, careful ? 300 : 20)) {
            keyOnStack(m, off);
        }
        argument(2, off);
        mapArgument(1, m);
        add(0x85, 0, 0, 0, 1);
        afterHelper(CELL_OR_0);
        cell = m < 7 ? MAPS[m][2] : 0;
        keep(CELL_OR_0);
        test(CELL);
        if (m != 5 && dice.odds(2, 3)) {
            access();
        }
    }

    /** What a helper answered goes to another register or to the stack, perhaps. */
    private void keep(char kind) {
        if (careful || dice.odds(1, 2)) {
            move(6, 0);
        }
        if (dice.odds(1, 6)) {
            add(0x7B, 10, 0, -64, 0);
            if (dice.odds(1, 2)) {
                add(0x79, 5, 10, -64, 0);
                kinds[5] = kind;
            }
        }
    }

    /** r0 (or r6) is looked at, mostly; it goes on where it is not 0. */
    private void test(char kind) {
        char from = kind == CELL ? CELL_OR_0 : RECORD_OR_0;
        if (!dice.odds(1, 12)) {
            int r = kinds[6] == from ? dice.of(0, 6) : 0;
            int at = words.size();
            boolean zero = dice.odds(3, 4);
            add(zero ? 0x15 : 0x55, r, 0, 0, 0);
            open.add(zero ? at : words.size());
            if (!zero) {
                add(0x05, 0, 0, 0, 0);
                landAt(at);
            }
        } else if (careful || dice.odds(1, 2)) {
            return;
        }
        for (int i = 0; i < 10; i++) {
            kinds[i] = kinds[i] == from ? kind : kinds[i];
        }
    }

    /** An update or a removal. */
    private void change() {
        int m = keyedMap();
        if (m > 6 || MAPS[m][1] == 0) {
            return;
        }
        keyOnStack(m, -24);
        boolean update = dice.odds(2, 3);
        if (update) {
            for (int b = 0; b < MAPS[m][2]; b += 8) {
                add(0x7A, 10, 0, -56 + b, dice.below(1000));
            }
            int from = find(CELL);
            if (from >= 0 && (!careful || cell >= MAPS[m][2]) && dice.odds(1, 4)) {
                move(3, from);
            } else {
                argument(3, -56);
            }
            set(4, dice.of(0, 0, 0, 1, 2, 3));
        }
        argument(2, -24);
        mapArgument(1, m);
        add(0x85, 0, 0, 0, update ? 2 : 3);
        afterHelper(NUMBER);
    }

    private void record() {
        int n = dice.of(1, 4, 8, 8, 16, 64);
        record = n;
        mapArgument(1, dice.odds(1, 30) ? dice.below(8) : dice.of(3, 3, 6));
        set(2, n);
        set(3, 0);
        add(0x85, 0, 0, 0, 131);
        afterHelper(RECORD_OR_0);
        keep(RECORD_OR_0);
        test(RECORD);
        int pieces = dice.below(3);
        int before = open.size();
        for (int i = 0; i < pieces; i++) {
            if (dice.odds(1, 2)) {
                access();
            } else {
                piece();
            }
        }
        while (careful && open.size() > before) {
            landAt(open.remove(open.size() - 1));
        }
        if (dice.odds(careful ? 29 : 3, careful ? 30 : 4)) {
            endRecords();
        }
    }

    private void endRecords() {
        int r = find(RECORD);
        for (int k = 0; k < 4 && r >= 0; k++) {
            if (r != 1) {
                move(1, r);
            }
            set(2, dice.below(9));
            add(0x85, 0, 0, 0, dice.of(132, 133));
            for (int i = 0; i < 10; i++) {
                kinds[i] = kinds[i] == RECORD ? NOTHING : kinds[i];
            }
            afterHelper(NUMBER);
            r = find(RECORD);
        }
    }

    private void trace() {
        int p = find(CELL, PACKET, RECORD, STACK);
        boolean fixed = dice.odds(1, 2);
        p = p >= 0 && careful && (kinds[p] == STACK || (kinds[p] == CELL ? cell : kinds[p] == PACKET ? reach : record) < (fixed ? 8 : 16)) ? -1 : p;
        if (fixed) {
            set(2, dice.of(1, 2, 4, 8));
        } else {
            int x = numberRegister();
            if (x != 2) {
                move(2, x);
            }
            add(0x57, 2, 0, 0, dice.of(3, 7, 15));
            if (dice.odds(19, 20)) {
                add(0x07, 2, 0, 0, 1);
            }
        }
        if (p < 0 || p == 10 || p == 2) {
            for (int b = -32; b < -16; b += 8) {
                add(0x7A, 10, 0, b, dice.below(1000));
            }
            argument(1, -32);
        } else if (p != 1) {
            move(1, p);
        }
        add(0x85, 0, 0, 0, 6);
        afterHelper(NUMBER);
    }

    private void bytes() {
        int c = find(CONTEXT);
        if (c < 0) {
            return;
        }
        int off = dice.of(-48, -44, -64, careful ? -56 : -17);
        number(0);
        argument(3, off);
        if (dice.odds(1, 2)) {
            set(4, dice.of(1, 4, 8, 13, 17, 40));
        } else {
            move(4, 0);
            add(0x57, 4, 0, 0, dice.of(7, 15, 31));
            add(0x07, 4, 0, 0, dice.of(1, 1, 3));
        }
        if (dice.odds(3, 4)) {
            set(2, dice.below(30));
        } else {
            move(2, 0);
        }
        c = find(CONTEXT);
        if (c != 1 && c >= 0) {
            move(1, c);
        }
        add(0x85, 0, 0, 0, 26);
        afterHelper(NUMBER);
        if (dice.odds(1, careful ? 10 : 2)) {
            int size = dice.of(SIZES);
            add(0x61 + size, 0, 10, off + dice.below(9), 0);
        }
    }

    private void moveOrTail() {
        int c = find(CONTEXT);
        if (c < 0) {
            return;
        }
        boolean tail = dice.odds(1, 2);
        if (tail) {
            mapArgument(2, 2);
            set(3, dice.below(7));
        } else {
            set(2, dice.of(dice.below(40) - 20, dice.below(600) - 300));
        }
        if (c != 1) {
            move(1, c);
        }
        add(0x85, 0, 0, 0, tail ? 12 : 44);
        afterHelper(NUMBER);
        if (!tail) {
            for (int r = 0; r < 10; r++) {
                kinds[r] = kinds[r] == PACKET || kinds[r] == END ? NOTHING : kinds[r];
            }
        }
    }

    private void function() {
        if (depth >= 3 && dice.odds(9, 10)) {
            return;
        }
        for (int r = 1; r <= 5; r++) {
            if (dice.odds(1, 4)) {
                int p = find(CELL, PACKET, RECORD, STACK, CONTEXT, END, CELL_OR_0);
                if (p >= 0) {
                    move(r, p);
                }
            } else if (kinds[r] == NOTHING || dice.odds(1, 4)) {
                set(r, dice.below(9));
            }
        }
        calls.add(new int[] {words.size(), depth == 0 || dice.odds(1, 9) ? dice.below(3) : Math.min(2, depth)});
        add(0x85, 0, 1, 0, 0);
        afterHelper(NUMBER);
    }

    private void loop() {
        int c = dice.of(0, 5, 6);
        if (dice.odds(1, 6)) {
            number(c);
            add(0x57, c, 0, 0, 7);
        } else {
            set(c, dice.below(3));
        }
        int begin = words.size();
        int pieces = dice.below(3);
        for (int i = 0; i < pieces; i++) {
            switch (dice.below(4)) {
                case 0:
                    piece();
                    break;
                case 1:
                    access();
                    break;
                case 2:
                    condition();
                    break;
                default:
                    operation();
                    break;
            }
            land();
        }
        if (kinds[c] != NUMBER) {
            return;
        }
        add(0x07, c, 0, 0, dice.of(1, 1, 1, 2));
        add(dice.of(0xA5, 0xA5, 0xA6, 0xC5, 0x55, 0xB5), c, 0, begin - words.size() - 1, dice.of(4, 9, 20, 70));
    }

    private void spill() {
        int r = dice.below(11);
        if (kinds[r] == NOTHING || kinds[r] == RECORD_OR_0) {
            return;
        }
        int off = -8 * (9 + dice.below(7));
        add(0x7B, 10, r, off, 0);
        if (dice.odds(1, 4)) {
            add(0x62 + dice.of(0, 8, 16), 10, 0, off + dice.of(0, 2, 4), dice.below(10));
        }
        if (dice.odds(1, 2)) {
            int d = spare();
            add(0x79, d, 10, off, 0);
            kinds[d] = kinds[r];
        }
    }

    /** A constant comes to a pointer. */
    private void pointer() {
        int p = find(PACKET, STACK, CELL, RECORD);
        if (p < 0) {
            return;
        }
        int d = spare();
        if (kinds[p] == RECORD && dice.odds(3, 4) || d == 10) {
            return;
        }
        move(d, p);
        int by = kinds[p] == STACK ? -dice.of(8, 16, 5, 64, 128) : dice.of(1, 4, 8, -4);
        switch (dice.below(4)) {
            case 0:
                add(0x17, d, 0, 0, -by);
                break;
            case 1:
                int x = numberRegister();
                if (x != d && kinds[x] == NUMBER) {
                    add(0xB7, x, 0, 0, by);
                    add(0x0F, x, d, 0, 0);
                    kinds[x] = kinds[d];
                }
                break;
            default:
                add(0x07, d, 0, 0, by);
                break;
        }
    }

    private void stackBytes() {
        int size = dice.of(SIZES);
        int n = bytes(size);
        int off = -8 * (1 + dice.below(15)) - dice.of(0, 0, 4, 2, 1);
        int s = numberRegister();
        add(0x63 + size, 10, s, Math.max(off, -128), 0);
        int d = spare();
        int again = dice.of(SIZES);
        add(0x61 + (bytes(again) <= n || dice.odds(1, careful ? 30 : 5) ? again : size), d, 10, Math.max(off, -128), 0);
        kinds[d] = NUMBER;
    }
}
