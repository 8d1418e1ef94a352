import java.math.BigInteger;
import java.util.ArrayList;
import java.util.Arrays;
import java.util.HashMap;
import java.util.HashSet;
import java.util.List;
import java.util.Map;
import java.util.Set;

/**
 * Part 6, THE JUDGE, written once more for tests: values are objects that never change, TAGs are objects without a
 * number, the ways are gone by recursion, and a fault is thrown.
 */
final class Walk {
    static final int UNSET = 0;
    static final int NUMBER = 1;
    static final int CONTEXT = 2;
    static final int STACK = 3;
    static final int MAP = 4;
    static final int CELL = 5;
    static final int CELL_OR_0 = 6;
    static final int PACKET = 7;
    static final int END = 8;
    static final int RECORD = 9;
    static final int RECORD_OR_0 = 10;

    /** A fault of part 6, by its number there. */
    private static final class Fault extends RuntimeException {
        private final int which;

        Fault(int which) {
            super("fault " + which, null, false, false);
            this.which = which;
        }
    }

    /** The maps that were told: kind (-1: none), bytes of keys and of values. */
    record Shape(int kind, int key, int value) {
    }

    /** A VALUE; number is that of a NUMBER, or the PART; no tag is TAG 0. */
    private record Value(int kind, Known number, int off, int what, Object tag, long reach) {
        static Value of(int kind, int what) {
            return new Value(kind, Known.number(0), 0, what, null, 0);
        }

        static Value of(Known number) {
            return new Value(NUMBER, number, 0, 0, null, 0);
        }

        boolean has(int... kinds) {
            for (int k : kinds) {
                if (k == kind) {
                    return true;
                }
            }
            return false;
        }
    }

    /** A PART of a stack: a value, or (when that is null) which of its bytes are set. */
    private static final class Part {
        Value value = null;
        final boolean[] set = new boolean[8];

        Part copy() {
            Part p = new Part();
            p.value = value;
            System.arraycopy(set, 0, p.set, 0, 8);
            return p;
        }

        boolean isSet(int i) {
            return value == null ? set[i] : value.kind == NUMBER;
        }

        /** From now on it has bytes; those of a NUMBER are set. */
        void toBytes() {
            if (value != null) {
                Arrays.fill(set, value.kind == NUMBER);
                value = null;
            }
        }
    }

    private static final class Frame {
        /** null: UNSET. */
        final Value[] regs = new Value[10];
        final Part[] parts = new Part[16];
        int back = -1;

        Frame() {
            for (int i = 0; i < 16; i++) {
                parts[i] = new Part();
            }
        }

        Frame copy() {
            Frame f = new Frame();
            System.arraycopy(regs, 0, f.regs, 0, 10);
            for (int i = 0; i < 16; i++) {
                f.parts[i] = parts[i].copy();
            }
            f.back = back;
            return f;
        }
    }

    private static final class State {
        final List<Frame> frames = new ArrayList<>();
        final List<Object> held = new ArrayList<>();
        int at = 0;
        /** Of one that is kept. */
        boolean done = false;
        int longest = 0;
        int gone = 0;

        State copy() {
            State s = new State();
            for (Frame f : frames) {
                s.frames.add(f.copy());
            }
            s.held.addAll(held);
            s.at = at;
            return s;
        }

        Frame top() {
            return frames.get(frames.size() - 1);
        }

        Value get(int r) {
            return r == 10 ? Value.of(STACK, frames.size() - 1) : top().regs[r];
        }

        Value need(int r) {
            Value v = get(r);
            if (v == null) {
                throw new Fault(3);
            }
            return v;
        }

        void set(int r, Value v) {
            top().regs[r] = v;
        }
    }

    private interface Change {
        Value of(Value v);
    }

    private final long[] code;
    private final Shape[] maps;
    private final boolean[] leads;
    private final Set<Integer> joins = new HashSet<>();
    private final Map<Integer, List<State>> kept = new HashMap<>();
    private int waiting = 0;
    private long w;
    private int at;

    int fault = 0;
    final int[] told = {-1, 0, 0, 0, 0, 0};
    /** The registers of the uppermost frame ahead of each instruction that was gone. */
    private final Value[][] known;

    Walk(long[] code, Shape[] maps) {
        this.code = code;
        this.maps = maps;
        leads = new boolean[code.length];
        known = new Value[code.length][];
        judge();
    }

    long known(int i, int r, int what) {
        if (i < 0 || i >= code.length || known[i] == null || r < 0 || r > 9 || what < 0 || what > 9) {
            return -1;
        }
        Value v = known[i][r];
        if (v == null) {
            return 0;
        }
        boolean part = v.has(NUMBER, CELL, PACKET, RECORD);
        switch (what) {
            case 0:
                return v.kind;
            case 7:
                return v.has(STACK, CELL, PACKET, RECORD) ? v.off : 0;
            case 8:
                return v.what;
            case 9:
                return v.kind == PACKET ? v.reach : 0;
            default:
                return part ? v.number.field(what) : 0;
        }
    }

    private static int op(long word) {
        return (int) (word & 0xFF);
    }

    private static int dst(long word) {
        return (int) (word >>> 8 & 0xF);
    }

    private static int src(long word) {
        return (int) (word >>> 12 & 0xF);
    }

    private static int off(long word) {
        return (short) (word >>> 16 & 0xFFFF);
    }

    private static int imm(long word) {
        return (int) (word >>> 32);
    }

    private void judge() {
        int wrong = findForm();
        if (wrong >= 0) {
            fault = 1;
            told[0] = wrong;
            return;
        }
        wrong = findPlace();
        if (wrong >= 0) {
            fault = 2;
            told[0] = wrong;
            return;
        }
        State first = new State();
        first.frames.add(new Frame());
        first.set(1, Value.of(CONTEXT, 0));
        try {
            told[3] = explore(first, true);
        } catch (Fault f) {
            fault = f.which;
            told[0] = at;
            told[3] = 0;
        }
    }

    /** The first word that is no instruction. */
    private int findForm() {
        for (int i = 0; i < code.length; i++) {
            leads[i] = true;
            if (op(code[i]) == 0x18) {
                boolean second = i + 1 < code.length && (code[i + 1] & 0xFFFFFFFFL) == 0;
                boolean map = src(code[i]) == 1 && imm(code[i]) >= 0 && imm(code[i]) <= 7 && second && code[i + 1] == 0;
                if (dst(code[i]) > 9 || off(code[i]) != 0 || !(map || src(code[i]) == 0 && second)) {
                    return i;
                }
                i++;
            } else if (!isOne(code[i])) {
                return i;
            }
        }
        return -1;
    }

    /** Whether a word that is no pair is an instruction; FormTest looks at more of them. */
    static boolean isOne(long word) {
        int op = op(word);
        int low = op & 7;
        int code = op >> 4;
        boolean side = (op & 8) != 0;
        boolean d9 = dst(word) <= 9;
        boolean noOff = off(word) == 0;
        boolean noImm = imm(word) == 0;
        boolean noSrc = src(word) == 0;
        boolean right = side ? noImm && src(word) <= 10 : noSrc;
        if (op == 0xD4 || op == 0xDC || op == 0xD7) {
            return d9 && noSrc && noOff && List.of(16, 32, 64).contains(imm(word));
        }
        if (low == 4 || low == 7) {
            return d9 && right && code < 0xD && isAlu(word, code, low == 7, side);
        }
        if (low == 5 || low == 6) {
            boolean nothing = dst(word) == 0 && noSrc;
            switch (op) {
                case 0x05:
                    return nothing && noImm;
                case 0x06:
                    return nothing && noOff;
                case 0x85:
                    return dst(word) == 0 && noOff && (noSrc && imm(word) >= 0 || src(word) == 1);
                case 0x95:
                    return nothing && noOff && noImm;
                default:
                    return !List.of(0, 8, 9, 14, 15).contains(code) && dst(word) <= 10 && right;
            }
        }
        int size = op & 0x18;
        if (op == 0x61 + size || op == 0x81 + size && size != 0x18) {
            return d9 && src(word) <= 10 && noImm;
        }
        if (op == 0x62 + size) {
            return dst(word) <= 10 && noSrc;
        }
        if (op == 0x63 + size) {
            return dst(word) <= 10 && src(word) <= 10 && noImm;
        }
        boolean fetches = List.of(0x01, 0x41, 0x51, 0xA1, 0xE1).contains(imm(word));
        boolean plain = List.of(0x00, 0x40, 0x50, 0xA0, 0xF1).contains(imm(word));
        return (op == 0xC3 || op == 0xDB) && dst(word) <= 10 && (plain && src(word) <= 10 || fetches && src(word) <= 9);
    }

    private static boolean isAlu(long word, int code, boolean wide, boolean side) {
        int off = off(word);
        switch (code) {
            case 0x3:
            case 0x9:
                return (off == 0 || off == 1) && (side || imm(word) != 0);
            case 0x6:
            case 0x7:
            case 0xC:
                return off == 0 && (side || imm(word) >= 0 && imm(word) < (wide ? 64 : 32));
            case 0x8:
                return off == 0 && !side && imm(word) == 0;
            case 0xB:
                return off == 0 || side && (off == 8 || off == 16 || off == 32 && wide);
            default:
                return off == 0;
        }
    }

    private boolean isCall(int i) {
        return leads[i] && op(code[i]) == 0x85 && src(code[i]) == 1;
    }

    private boolean isJump(int i) {
        int low = op(code[i]) & 7;
        return leads[i] && (low == 5 || low == 6) && op(code[i]) != 0x85 && op(code[i]) != 0x95;
    }

    private int findPlace() {
        Set<Integer> begins = new HashSet<>(List.of(0));
        for (int i = 0; i < code.length; i++) {
            if (isCall(i)) {
                long to = i + 1L + imm(code[i]);
                if (to >= 0 && to < code.length && leads[(int) to]) {
                    begins.add((int) to);
                }
            }
        }
        for (int i = 0; i < code.length; i++) {
            if (leads[i] && !isPlaced(i, begins)) {
                return i;
            }
        }
        return -1;
    }

    private boolean isPlaced(int i, Set<Integer> begins) {
        int op = op(code[i]);
        if (isJump(i) || isCall(i)) {
            long to = i + 1L + (op == 0x06 || op == 0x85 ? imm(code[i]) : off(code[i]));
            if (to < 0 || to >= code.length || !leads[(int) to]) {
                return false;
            }
            if (isJump(i)) {
                joins.add((int) to);
                for (int b = (int) Math.min(to, i) + 1; b <= Math.max(to, i); b++) {
                    if (begins.contains(b)) {
                        return false;
                    }
                }
            }
        }
        int behind = i + (op == 0x18 ? 2 : 1);
        boolean end = behind >= code.length || begins.contains(behind);
        return !end || op == 0x95 || op == 0x05 || op == 0x06;
    }

    /** Goes along all ways from a state; how many instructions at most lie on one of them. */
    private int explore(State s, boolean beginning) {
        List<State> mine = new ArrayList<>();
        int count = 0;
        int longest = -1;
        boolean first = beginning;
        while (longest < 0) {
            at = s.at;
            State covering = first ? null : covering(s);
            if (covering != null && !covering.done) {
                throw new Fault(11);
            }
            if (covering != null) {
                longest = count + covering.longest;
                break;
            }
            if (first || joins.contains(s.at)) {
                mine.add(keep(s, count));
            }
            first = false;
            if (told[1] == 4000) {
                throw new Fault(12);
            }
            told[1]++;
            count++;
            told[5] = Math.max(told[5], s.frames.size());
            known[s.at] = s.top().regs.clone();
            w = code[s.at];
            List<State> ways = step(s);
            if (ways.isEmpty()) {
                longest = count;
            } else if (ways.size() == 1) {
                s = ways.get(0);
            } else {
                longest = count + exploreBoth(ways);
            }
            told[5] = Math.max(told[5], s.frames.size());
        }
        for (State k : mine) {
            k.done = true;
            k.longest = longest - k.gone;
        }
        return longest;
    }

    private int exploreBoth(List<State> ways) {
        if (waiting == 60) {
            throw new Fault(12);
        }
        waiting++;
        told[4] = Math.max(told[4], waiting);
        int one = explore(ways.get(0), false);
        waiting--;
        return Math.max(one, explore(ways.get(1), false));
    }

    private State keep(State s, int count) {
        if (told[2] == 250) {
            throw new Fault(12);
        }
        told[2]++;
        State k = s.copy();
        k.gone = count;
        kept.computeIfAbsent(s.at, x -> new ArrayList<>()).add(k);
        return k;
    }

    private State covering(State s) {
        if (joins.contains(s.at)) {
            for (State k : kept.getOrDefault(s.at, List.of())) {
                if (covers(k, s)) {
                    return k;
                }
            }
        }
        return null;
    }

    private static boolean covers(State k, State x) {
        if (k.frames.size() != x.frames.size() || k.held.size() != x.held.size()) {
            return false;
        }
        Map<Object, Object> there = new HashMap<>();
        Map<Object, Object> here = new HashMap<>();
        for (int i = 0; i < k.held.size(); i++) {
            if (!answer(k.held.get(i), x.held.get(i), there, here)) {
                return false;
            }
        }
        for (int f = 0; f < k.frames.size(); f++) {
            Frame a = k.frames.get(f);
            Frame b = x.frames.get(f);
            if (a.back != b.back) {
                return false;
            }
            for (int r = 0; r < 10; r++) {
                if (a.regs[r] != null && !coversValue(a.regs[r], b.regs[r], there, here)) {
                    return false;
                }
            }
            for (int p = 0; p < 16; p++) {
                if (!coversPart(a.parts[p], b.parts[p], there, here)) {
                    return false;
                }
            }
        }
        return true;
    }

    private static boolean answer(Object a, Object b, Map<Object, Object> there, Map<Object, Object> here) {
        if (a == null || b == null) {
            return a == b;
        }
        if (!there.containsKey(a) && !here.containsKey(b)) {
            there.put(a, b);
            here.put(b, a);
        }
        return there.get(a) == b && here.get(b) == a;
    }

    private static boolean coversPart(Part a, Part b, Map<Object, Object> there, Map<Object, Object> here) {
        if (a.value != null) {
            return coversValue(a.value, b.value, there, here);
        }
        for (int i = 0; i < 8; i++) {
            if (a.set[i] && !b.isSet(i)) {
                return false;
            }
        }
        return true;
    }

    private static boolean coversValue(Value a, Value b, Map<Object, Object> there, Map<Object, Object> here) {
        if (b == null || a.kind != b.kind || !coversNumber(a.number, b.number)) {
            return false;
        }
        return a.off == b.off && a.what == b.what && b.reach >= a.reach && answer(a.tag, b.tag, there, here);
    }

    private static boolean coversNumber(Known a, Known b) {
        boolean ranges = b.u1.compareTo(a.u1) >= 0 && b.u2.compareTo(a.u2) <= 0 && b.s1.compareTo(a.s1) >= 0 && b.s2.compareTo(a.s2) <= 0;
        for (int i = 0; ranges && i < 64; i++) {
            boolean knows = (a.m >> i & 1) == 0;
            if (knows && ((b.m >> i & 1) != 0 || (a.v >> i & 1) != (b.v >> i & 1))) {
                return false;
            }
        }
        return ranges;
    }

    private static List<State> go(State s, int to) {
        s.at = to;
        return List.of(s);
    }

    private List<State> step(State s) {
        int op = op(w);
        int next = s.at + 1;
        switch (op & 7) {
            case 0:
                if (src(w) == 1 && maps[imm(w)].kind < 0) {
                    throw new Fault(15);
                }
                long both = w >>> 32 | code[s.at + 1] >>> 32 << 32;
                s.set(dst(w), src(w) == 1 ? Value.of(MAP, imm(w)) : Value.of(Known.number(both)));
                return go(s, s.at + 2);
            case 1:
                load(s);
                return go(s, next);
            case 2:
            case 3:
                if (op == 0xC3 || op == 0xDB) {
                    exchange(s);
                } else {
                    put(s);
                }
                return go(s, next);
            case 4:
            case 7:
                alu(s);
                return go(s, next);
            default:
                return lead(s);
        }
    }

    private List<State> lead(State s) {
        switch (op(w)) {
            case 0x05:
                return go(s, s.at + 1 + off(w));
            case 0x06:
                return go(s, s.at + 1 + imm(w));
            case 0x95:
                return exit(s);
            case 0x85:
                if (src(w) == 1) {
                    enter(s);
                    return go(s, s.at + 1 + imm(w));
                }
                help(s, imm(w));
                return go(s, s.at + 1);
            default:
                return jump(s);
        }
    }

    private void enter(State s) {
        if (s.frames.size() == 4) {
            throw new Fault(13);
        }
        Frame f = new Frame();
        System.arraycopy(s.top().regs, 1, f.regs, 1, 5);
        f.back = s.at + 1;
        s.frames.add(f);
    }

    private List<State> exit(State s) {
        Value v = s.need(0);
        if (v.kind != NUMBER) {
            throw new Fault(7);
        }
        if (s.frames.size() == 1) {
            if (!s.held.isEmpty()) {
                throw new Fault(10);
            }
            return List.of();
        }
        Frame f = s.frames.remove(s.frames.size() - 1);
        s.set(0, v);
        unset(s, 1, 5);
        return go(s, f.back);
    }

    private static void unset(State s, int from, int to) {
        for (int r = from; r <= to; r++) {
            s.set(r, null);
        }
    }

    private static final String[] SIGNS = {"+", "-", "*", "/", "|", "&", "<<", ">>", "neg", "%", "^", "=", "s>>"};

    private void alu(State s) {
        int code = op(w) >> 4;
        boolean wide = (op(w) & 7) == 7;
        int d = dst(w);
        boolean reads = code != 0xB;
        Value left = reads ? s.need(d) : Value.of(Known.number(0));
        Value right = (op(w) & 8) != 0 && code != 0xD ? s.need(src(w)) : Value.of(Known.number(imm(w)));
        if (code == 0xB && wide && off(w) == 0) {
            s.set(d, right);
            return;
        }
        if (left.has(CELL_OR_0, RECORD_OR_0) || right.has(CELL_OR_0, RECORD_OR_0)) {
            throw new Fault(14);
        }
        if (left.kind != NUMBER || right.kind != NUMBER) {
            if (!wide || code > 1) {
                throw new Fault(4);
            }
            s.set(d, moved(left, right, code == 0));
            return;
        }
        Known x = left.number;
        Known y = right.number;
        Known z;
        if (code == 0xD) {
            z = Known.turned(op(w) == 0xD4 ? "le" : "be", imm(w), x);
        } else if (code == 0xB && off(w) != 0) {
            z = Known.extended(off(w), wide, y);
        } else {
            z = Known.operate(off(w) == 1 ? "s" + SIGNS[code] : SIGNS[code], wide, x, y);
        }
        s.set(d, Value.of(z));
    }

    /** "+ and - (of 64 bits)" of what is no NUMBER and a NUMBER. */
    private static Value moved(Value left, Value right, boolean plus) {
        Value p = left.kind == NUMBER ? right : left;
        Value by = left.kind == NUMBER ? left : right;
        if (!p.has(STACK, CELL, PACKET, RECORD) || by.kind != NUMBER || !plus && left.kind == NUMBER) {
            throw new Fault(4);
        }
        if (by.number.constant()) {
            BigInteger c = BigInteger.valueOf(by.number.v);
            BigInteger o = BigInteger.valueOf(p.off).add(plus ? c : c.negate());
            if (o.abs().compareTo(BigInteger.valueOf(4096)) > 0) {
                throw new Fault(5);
            }
            return new Value(p.kind, p.number, o.intValue(), p.what, p.tag, p.reach);
        }
        if (!plus || p.kind == STACK) {
            throw new Fault(4);
        }
        Known part = Known.operate("+", true, p.number, by.number);
        if (part.u2.compareTo(BigInteger.valueOf(65535)) > 0) {
            throw new Fault(5);
        }
        boolean packet = p.kind == PACKET;
        return new Value(p.kind, part, p.off, p.what, packet ? new Object() : p.tag, packet ? 0 : p.reach);
    }

    private static int size(int op) {
        return new int[] {4, 2, 1, 8}[op >> 3 & 3];
    }

    /** The least bytes of a and PART that must lie in the value, and where the last one ends. */
    private void range(Value p, int more, long n) {
        long a = (long) p.off + more;
        boolean good;
        if (p.kind == STACK) {
            good = a >= -128 && a + n <= 0;
        } else if (p.kind == PACKET) {
            good = a >= 0 && a + n <= p.reach;
        } else {
            long bytes = p.kind == CELL ? maps[p.what].value : p.what;
            good = a + p.number.u1.longValue() >= 0 && a + p.number.u2.longValue() + n <= bytes;
        }
        if (!good) {
            throw new Fault(5);
        }
    }

    private static boolean isSet(State s, Value p, int more, long n) {
        for (long b = 128 + p.off + more; b < 128 + p.off + more + n; b++) {
            if (!s.frames.get(p.what).parts[(int) (b / 8)].isSet((int) (b % 8))) {
                return false;
            }
        }
        return true;
    }

    /** The whole PART that n bytes from a place on are, if they are one. */
    private static Part whole(State s, Value p, int more, int n) {
        int b = 128 + p.off + more;
        return n == 8 && b % 8 == 0 ? s.frames.get(p.what).parts[b / 8] : null;
    }

    private static void setBytes(State s, Value p, int more, long touched, long set) {
        for (int i = 0; i < touched; i++) {
            int b = 128 + p.off + more + i;
            Part part = s.frames.get(p.what).parts[b / 8];
            part.toBytes();
            part.set[b % 8] |= i < set;
        }
    }

    private void load(State s) {
        Value p = s.need(src(w));
        int n = size(op(w));
        boolean signs = op(w) >> 5 == 4;
        if (p.has(CELL_OR_0, RECORD_OR_0)) {
            throw new Fault(14);
        }
        if (p.kind == CONTEXT) {
            if (op(w) != 0x61 || off(w) < 0 || off(w) > 16 || off(w) % 4 != 0) {
                throw new Fault(9);
            }
            s.set(dst(w), off(w) == 0 ? Value.of(PACKET, 0) : off(w) == 4 ? Value.of(END, 0) : Value.of(Known.wide(4)));
            return;
        }
        if (!p.has(STACK, CELL, PACKET, RECORD)) {
            throw new Fault(4);
        }
        range(p, off(w), n);
        if (p.kind == STACK) {
            Part part = whole(s, p, off(w), n);
            if (part != null && part.value != null) {
                s.set(dst(w), part.value);
                return;
            }
            if (!isSet(s, p, off(w), n)) {
                throw new Fault(6);
            }
        }
        s.set(dst(w), Value.of(signs ? Known.signsOf(8 * n) : Known.wide(n)));
    }

    private void put(State s) {
        Value p = s.need(dst(w));
        Value v = (op(w) & 7) == 3 ? s.need(src(w)) : Value.of(Known.number(imm(w)));
        int n = size(op(w));
        if (p.has(CELL_OR_0, RECORD_OR_0)) {
            throw new Fault(14);
        }
        if (p.kind == CONTEXT) {
            if (n != 4 || off(w) != 12) {
                throw new Fault(9);
            }
        } else if (!p.has(STACK, CELL, PACKET, RECORD)) {
            throw new Fault(4);
        } else {
            range(p, off(w), n);
        }
        Part part = p.kind == STACK ? whole(s, p, off(w), n) : null;
        if (v.kind != NUMBER && part == null || v.kind == STACK && v.what > p.what) {
            throw new Fault(7);
        }
        if (part != null) {
            part.value = v;
        } else if (p.kind == STACK) {
            setBytes(s, p, off(w), n, n);
        }
    }

    private void exchange(State s) {
        boolean compares = imm(w) == 0xF1;
        Value p = s.need(dst(w));
        Value zeroth = compares ? s.need(0) : Value.of(Known.number(0));
        Value v = s.need(src(w));
        int n = size(op(w));
        if (p.has(CELL_OR_0, RECORD_OR_0)) {
            throw new Fault(14);
        }
        if (!p.has(STACK, CELL, RECORD)) {
            throw new Fault(4);
        }
        range(p, off(w), n);
        if (p.kind == STACK && !isSet(s, p, off(w), n)) {
            throw new Fault(6);
        }
        if (v.kind != NUMBER || zeroth.kind != NUMBER) {
            throw new Fault(7);
        }
        if (p.kind == STACK) {
            setBytes(s, p, off(w), n, n);
        }
        if (imm(w) % 16 == 1) {
            s.set(compares ? 0 : src(w), Value.of(Known.wide(n)));
        }
    }

    private static final String[] JUMPS = {"", "==", ">", ">=", "&", "!=", "s>", "s>=", "", "", "<", "<=", "s<", "s<="};

    private List<State> jump(State s) {
        boolean side = (op(w) & 8) != 0;
        boolean wide = (op(w) & 7) == 5;
        String jump = JUMPS[op(w) >> 4];
        int next = s.at + 1;
        int target = next + off(w);
        Value left = s.need(dst(w));
        Value right = side ? s.need(src(w)) : Value.of(Known.number(imm(w)));
        boolean zero = wide && !side && imm(w) == 0 && (jump.equals("==") || jump.equals("!="));
        if (zero && left.kind != NUMBER) {
            boolean equal = jump.equals("==");
            if (!left.has(CELL_OR_0, RECORD_OR_0)) {
                return go(s, equal ? next : target);
            }
            State other = s.copy();
            settle(s, left.tag, !equal);
            settle(other, left.tag, equal);
            s.at = next;
            other.at = target;
            return List.of(s, other);
        }
        if (left.has(CELL_OR_0, RECORD_OR_0) || right.has(CELL_OR_0, RECORD_OR_0)) {
            throw new Fault(14);
        }
        if (left.kind == NUMBER && right.kind == NUMBER) {
            return jumpNumbers(s, jump, wide, side, left.number, right.number);
        }
        boolean packet = left.kind == PACKET && right.kind == END || left.kind == END && right.kind == PACKET;
        if (!packet || !wide || !List.of(">", ">=", "<", "<=").contains(jump)) {
            throw new Fault(4);
        }
        State other = s.copy();
        s.at = next;
        other.at = target;
        Value p = left.kind == PACKET ? left : right;
        String as = left.kind == PACKET ? jump : jump.replace('<', '?').replace('>', '<').replace('?', '>');
        reach(s, p, as.equals(">") ? 0 : as.equals(">=") ? 1 : -1);
        reach(other, p, as.equals("<=") ? 0 : as.equals("<") ? 1 : -1);
        return List.of(s, other);
    }

    /** On this way p is at most END (0), below it (1), or nothing is known of it. */
    private static void reach(State s, Value p, int more) {
        if (more >= 0) {
            all(s, v -> v.kind == PACKET && v.tag == p.tag
                    ? new Value(PACKET, v.number, v.off, v.what, v.tag, Math.max(v.reach, (long) p.off + more)) : v);
        }
    }

    private static void settle(State s, Object tag, boolean zero) {
        all(s, v -> {
            if (!v.has(CELL_OR_0, RECORD_OR_0) || v.tag != tag) {
                return v;
            }
            if (zero) {
                return Value.of(Known.number(0));
            }
            return v.kind == CELL_OR_0 ? Value.of(CELL, v.what) : new Value(RECORD, Known.number(0), 0, v.what, tag, 0);
        });
        if (zero) {
            s.held.remove(tag);
        }
    }

    /** Each VALUE, of all frames, on stacks too, becomes another one; null: it is unset. */
    private static void all(State s, Change change) {
        for (Frame f : s.frames) {
            for (int r = 0; r < 10; r++) {
                f.regs[r] = f.regs[r] == null ? null : change.of(f.regs[r]);
            }
            for (Part part : f.parts) {
                if (part.value != null) {
                    part.value = change.of(part.value);
                    if (part.value == null) {
                        Arrays.fill(part.set, false);
                    }
                }
            }
        }
    }

    private List<State> jumpNumbers(State s, String jump, boolean wide, boolean side, Known x, Known y) {
        int next = s.at + 1;
        int target = next + off(w);
        int decided = Known.decided(jump, wide, x, y);
        if (decided >= 0) {
            return go(s, decided == 1 ? target : next);
        }
        Known right = wide || side ? y : y.cut();
        BigInteger f = BigInteger.valueOf(0xFFFFFFFFL);
        boolean half = !wide && (jump.startsWith("s") || x.u2.compareTo(f) > 0 || right.u2.compareTo(f) > 0);
        boolean narrows = !half && !(side && src(w) == dst(w));
        List<State> ways = new ArrayList<>();
        for (int so = 0; so <= 1; so++) {
            State way = s.copy();
            way.at = so == 1 ? target : next;
            Known a = x.copy();
            Known b = right.copy();
            boolean nothing = false;
            if (narrows) {
                Known.narrow(jump, so == 1, a, b);
                nothing = a.tidy().nothing;
                nothing |= side && b.tidy().nothing;
                way.set(dst(w), Value.of(a));
                if (side) {
                    way.set(src(w), Value.of(b));
                }
            }
            if (!nothing) {
                ways.add(way);
            }
        }
        return ways;
    }

    /** An argument must be set, and is no null value. */
    private static Value argument(State s, int r) {
        Value v = s.need(r);
        if (v.has(CELL_OR_0, RECORD_OR_0)) {
            throw new Fault(14);
        }
        return v;
    }

    private static void call(boolean good) {
        if (!good) {
            throw new Fault(8);
        }
    }

    private static Known number(State s, int r) {
        Value v = argument(s, r);
        call(v.kind == NUMBER);
        return v.number;
    }

    private Value map(State s, int r, int... kinds) {
        Value v = argument(s, r);
        boolean good = false;
        for (int k : kinds) {
            good |= v.kind == MAP && maps[v.what].kind == k;
        }
        call(good);
        return v;
    }

    private void bytes(State s, int r, long n) {
        Value v = argument(s, r);
        call(v.has(STACK, CELL, PACKET, RECORD));
        range(v, 0, n);
        if (v.kind == STACK && !isSet(s, v, 0, n)) {
            throw new Fault(6);
        }
    }

    private static long atMost(Known x, int most) {
        call(x.u1.signum() > 0 && x.u2.compareTo(BigInteger.valueOf(most)) <= 0);
        return x.u2.longValue();
    }

    private void help(State s, int helper) {
        Value answer = Value.of(Known.any());
        switch (helper) {
            case 1:
            case 2:
            case 3:
                Value map = map(s, 1, 0, 1);
                bytes(s, 2, maps[map.what].key);
                if (helper == 2) {
                    bytes(s, 3, maps[map.what].value);
                    number(s, 4);
                }
                answer = helper == 1 ? new Value(CELL_OR_0, Known.number(0), 0, map.what, new Object(), 0) : answer;
                break;
            case 5:
                break;
            case 6:
                bytes(s, 1, atMost(number(s, 2), 64));
                break;
            case 7:
                answer = Value.of(Known.wide(4));
                break;
            case 12:
                call(argument(s, 1).kind == CONTEXT);
                map(s, 2, 2);
                number(s, 3);
                call(s.frames.size() == 1);
                if (!s.held.isEmpty()) {
                    throw new Fault(10);
                }
                break;
            case 26:
                call(argument(s, 1).kind == CONTEXT);
                number(s, 2);
                fill(s);
                break;
            case 44:
                call(argument(s, 1).kind == CONTEXT);
                number(s, 2);
                all(s, v -> v.has(PACKET, END) ? null : v);
                break;
            case 131:
                answer = record(s);
                break;
            case 132:
            case 133:
                Value record = argument(s, 1);
                call(record.kind == RECORD && record.off == 0 && record.number.constant() && record.number.v == 0);
                number(s, 2);
                s.held.remove(record.tag);
                all(s, v -> v.kind == RECORD && v.tag == record.tag ? null : v);
                break;
            default:
                throw new Fault(8);
        }
        unset(s, 1, 5);
        s.set(0, answer);
    }

    private void fill(State s) {
        Known count = number(s, 4);
        long most = atMost(count, 128);
        Value stack = argument(s, 3);
        call(stack.kind == STACK);
        range(stack, 0, most);
        setBytes(s, stack, 0, most, Math.min(count.u1.longValue(), most));
    }

    private Value record(State s) {
        map(s, 1, 3);
        Known n = number(s, 2);
        call(n.constant() && n.v >= 1 && n.v <= 64);
        number(s, 3);
        Object tag = new Object();
        if (s.held.size() == 64) {
            throw new Fault(12);
        }
        s.held.add(tag);
        return new Value(RECORD_OR_0, Known.number(0), 0, (int) n.v, tag, 0);
    }
}
