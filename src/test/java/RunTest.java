/** Promises 23 to 35: packet, length, packetByte, given, mark, chances, run, result, tails, steps, traces, trace, tear. */
public final class RunTest {
    private static final String SPREAD = "*(u64 *)(r10 - 8) = %d\nr2 = r10\nr2 += -8\n";

    public static void main(String[] args) {
        packets();
        marks();
        operations();
        shifts();
        divisions();
        orders();
        jumps();
        memory();
        exchanges();
        functions();
        keyed();
        cells();
        traces();
        chances();
        counted();
        tails();
        packetHelpers();
        recordHelpers();
        otherMaps();
        refused();
        House.end();
    }

    private static void result(String text, long want) {
        House.due("result of <" + text + ">", new House().run(0, text), want);
    }

    private static void packets() {
        House house = new House();
        FilterHouse x = house.house;
        House.due("packet", house.tape(1, 200, 3).house.packet(), 3);
        House.due("length", x.length(), 3);
        House.due("byte 0", x.packetByte(0), 1);
        House.due("byte 1", x.packetByte(1), 200);
        House.due("byte 3", x.packetByte(3), -1);
        House.due("byte -1", x.packetByte(-1), -1);
        House.due("257 bytes", house.tape(new byte[257]).house.packet(), -1);
        House.due("the packet stays", x.length(), 3);
        House.due("tape is used up", x.cut(1), -1);
        House.due("256 bytes", house.tape(new byte[256]).house.packet(), 256);
        House.due("byte 255", x.packetByte(255), 0);
        House.due("no bytes", x.packet(), 0);
        House.due("length", x.length(), 0);
        house.tape(1, 2, 3, 4, 5).house.packet();
        String read = "r2 = *(u32 *)(r1 + 0)\nr3 = *(u32 *)(r1 + 4)\nr0 = *(u32 *)(r1 + 8)\nr4 = r2\nr4 += 4\nif r4 > r3 goto +3\n"
                + "*(u8 *)(r2 + 1) = 99\nr0 = *(u32 *)(r2 + 0)\nr0 += 0\nexit";
        House.due("bytes of the packet", house.run(0, read), 0x04036301L);
        House.due("byte 1", x.packetByte(1), 99);
        house.tape(1, 2, 3).house.packet();
        House.due("too short", house.run(0, read), 3);
        // END is behind the last byte
        String all = "r2 = *(u32 *)(r1 + 0)\nr3 = *(u32 *)(r1 + 4)\nr0 = 0\nL: r4 = r2\nr4 += 1\nif r4 > r3 goto +5\nr5 = *(u8 *)(r2 + 0)\nr0 += r5\nr2 += 1\n"
                + "r6 = r0\ngoto +0\nexit";
        house.tape(7, 8).house.packet();
        House.due("the first one", house.run(0, all), 7);
    }

    private static void marks() {
        House house = new House();
        FilterHouse x = house.house;
        x.given(-2, 0x01020304);
        House.due("mark", x.mark(), -2);
        House.due("source", house.run(0, "r0 = *(u32 *)(r1 + 16)\nexit"), 0x01020304);
        House.due("mark seen", house.run(0, "r0 = *(u32 *)(r1 + 12)\nexit"), 0xFFFFFFFEL);
        House.due("mark put", house.run(0, "*(u32 *)(r1 + 12) = 77\nr0 = *(u32 *)(r1 + 12)\nexit"), 77);
        House.due("mark", x.mark(), 77);
        House.due("mark of the next run", house.run(0, "r0 = *(u32 *)(r1 + 12)\nexit"), 77);
        House.due("mark put", house.run(0, "r2 = 0x1FFFFFFFE ll\n*(u32 *)(r1 + 12) = r2\nr0 = 1\nexit"), 1);
        House.due("its lowest bytes", x.mark(), -2);
        x.given(5, 6);
        House.due("mark", x.mark(), 5);
        House.due("source", house.run(0, "r0 = *(u32 *)(r1 + 16)\nexit"), 6);
    }

    private static void sides(String op, long x, long y, long wide, long half) {
        String load = "r1 = " + x + " ll\nr2 = " + y + " ll\n";
        result(load + "r1 " + op + " r2\nr0 = r1\nexit", wide);
        result(load + "w1 " + op + " w2\nr0 = r1\nexit", half);
        if (y == (int) y && y != 0 && !op.contains("<") && !op.contains(">")) {
            result(load + "r1 " + op + " " + y + "\nr0 = r1\nexit", wide);
            result(load + "w1 " + op + " " + y + "\nr0 = r1\nexit", half);
        }
    }

    private static void operations() {
        sides("+=", 0x1FFFFFFFFL, 2, 0x200000001L, 1);
        sides("+=", -1, -1, -2, 0xFFFFFFFEL);
        sides("-=", 5, 7, -2, 0xFFFFFFFEL);
        sides("*=", 0x123456789L, 0x10001, 0x123456789L * 0x10001, 0x123456789L * 0x10001 & 0xFFFFFFFFL);
        sides("|=", 0xF00000001L, -16, 0xF00000001L | -16, 0xFFFFFFF1L);
        sides("&=", 0xF12345678L, -256, 0xF12345600L, 0x12345600L);
        sides("^=", 0xF12345678L, -1, ~0xF12345678L, 0xEDCBA987L);
        sides("=", 0x500000005L, -9, -9, 0xFFFFFFF7L);
        result("r0 = 5\nr0 = - r0\nexit", -5);
        result("r0 = 5\nw0 = - w0\nexit", 0xFFFFFFFBL);
        result("r1 = 0x123456789ABCDE80 ll\nr0 = (s8) r1\nexit", -128);
        result("r1 = 0x123456789ABC8E80 ll\nr0 = (s16) r1\nexit", (short) 0x8E80);
        result("r1 = 0x12345678FABC8E80 ll\nr0 = (s32) r1\nexit", 0xFABC8E80);
        result("r1 = 0x12345678FABC8E80 ll\nw0 = (s8) w1\nexit", 0xFFFFFF80L);
        result("r1 = 0x12345678FABC8E80 ll\nw0 = (s16) w1\nexit", 0xFFFF8E80L);
        result("r0 = 0x12345678FABC8E80 ll\nw0 = w0\nexit", 0xFABC8E80L);
    }

    private static void shifts() {
        sides("<<=", 0x123456789L, 4, 0x1234567890L, 0x34567890L);
        sides("<<=", 1, 68, 16, 16);
        sides("<<=", 1, 36, 1L << 36, 16);
        sides(">>=", -1, 60, 15, 15);
        sides(">>=", 0xF00000000L, 4, 0xF0000000L, 0);
        sides(">>=", -1, 33, 0x7FFFFFFFL, 0x7FFFFFFFL);
        sides("s>>=", -256, 4, -16, 0xFFFFFFF0L);
        sides("s>>=", 0x80000000L, 31, 1, 0xFFFFFFFFL);
        sides("s>>=", Long.MIN_VALUE, 63, -1, 0);
        result("r0 = -256\nr0 s>>= 4\nexit", -16);
        result("r0 = -256\nw0 s>>= 31\nexit", 0xFFFFFFFFL);
        result("r0 = -256\nr0 >>= 63\nexit", 1);
        result("r0 = -256\nw0 >>= 31\nexit", 1);
        result("r0 = 3\nw0 <<= 31\nexit", 0x80000000L);
    }

    private static void divisions() {
        sides("/=", 7, 2, 3, 3);
        sides("/=", -1, 2, Long.MAX_VALUE, 0x7FFFFFFF);
        sides("/=", -1, -1, 1, 1);
        sides("/=", -2, -1, 0, 0);
        sides("/=", 9, 0, 0, 0);
        sides("/=", -1, 3, 0x5555555555555555L, 0x55555555L);
        sides("/=", 0x500000007L, 0x100000002L, 4, 3);
        sides("%=", 7, 2, 1, 1);
        sides("%=", -1, 10, 5, 5);
        sides("%=", 0x700000009L, 0, 0x700000009L, 9);
        sides("%=", -2, -1, -2, 0xFFFFFFFEL);
        sides("s/=", -7, 2, -3, 0xFFFFFFFDL);
        sides("s/=", 7, -2, -3, 0xFFFFFFFDL);
        sides("s/=", 7, 0, 0, 0);
        sides("s/=", Long.MIN_VALUE, -1, Long.MIN_VALUE, 0);
        sides("s/=", Integer.MIN_VALUE, -1, 1L << 31, 0x80000000L);
        sides("s%=", -7, 2, -1, 0xFFFFFFFFL);
        sides("s%=", 7, -2, 1, 1);
        sides("s%=", -7, 0, -7, 0xFFFFFFF9L);
        sides("s%=", Long.MIN_VALUE, -1, 0, 0);
        sides("s%=", Integer.MIN_VALUE, -1, 0, 0);
    }

    private static void orders() {
        String load = "r0 = 0x0102030405060708 ll\n";
        result(load + "r0 = le16 r0\nexit", 0x0708);
        result(load + "r0 = le32 r0\nexit", 0x05060708);
        result(load + "r0 = le64 r0\nexit", 0x0102030405060708L);
        for (String name : new String[] {"be", "bswap"}) {
            result(load + "r0 = " + name + "16 r0\nexit", 0x0807);
            result(load + "r0 = " + name + "32 r0\nexit", 0x08070605);
            result(load + "r0 = " + name + "64 r0\nexit", 0x0807060504030201L);
        }
    }

    private static void jump(String op, long x, long y, int wide, int half) {
        String load = "call 5\nr6 = r0\nr1 = " + x + " ll\nr2 = " + y + " ll\nr0 = 1\n";
        result(load + "if r1 " + op + " r2 goto +1\nr0 = 0\nexit", wide);
        result(load + "if w1 " + op + " w2 goto +1\nr0 = 0\nexit", half);
        if (y == (int) y) {
            result(load + "if r1 " + op + " " + y + " goto +1\nr0 = 0\nexit", wide);
            result(load + "if w1 " + op + " " + y + " goto +1\nr0 = 0\nexit", half);
        }
    }

    private static void jumps() {
        jump("==", 5, 5, 1, 1);
        jump("==", 0x100000005L, 5, 0, 1);
        jump("!=", 0x100000005L, 5, 1, 0);
        jump(">", -1, 5, 1, 1);
        jump(">", 0x100000005L, 6, 1, 0);
        jump(">", 5, 5, 0, 0);
        jump(">=", 5, 5, 1, 1);
        jump(">=", 5, -1, 0, 0);
        jump("<", 5, -1, 1, 1);
        jump("<", 5, 5, 0, 0);
        jump("<=", 5, 5, 1, 1);
        jump("<=", 6, 5, 0, 0);
        jump("&", 6, 1, 0, 0);
        jump("&", 0x100000000L, -1, 1, 0);
        jump("&", -1, Integer.MIN_VALUE, 1, 1);
        jump("s>", -1, 5, 0, 0);
        jump("s>", 0xFFFFFFFFL, 5, 1, 0);
        jump("s>", 5, -5, 1, 1);
        jump("s>=", -5, -5, 1, 1);
        jump("s>=", 0x80000000L, 1, 1, 0);
        jump("s<", -5, 5, 1, 1);
        jump("s<", 5, 5, 0, 0);
        jump("s<=", 5, 5, 1, 1);
        jump("s<=", 0xFFFFFFFFL, -1, 0, 1);
        result("r0 = 1\ngoto +1\nr0 = 2\ngotol +1\nr0 = 3\nexit", 1);
        // what is not decided by the judge
        House house = new House();
        String some = "r1 = *(u32 *)(r1 + 12)\nr0 = 1\nif w1 s< -3 goto +1\nr0 = 0\nexit";
        house.house.given(-4, 0);
        House.due("s< of 32 bits", house.run(0, some), 1);
        house.house.given(-3, 0);
        House.due("s< of 32 bits", house.run(0, some), 0);
        house.house.given(3, 0);
        House.due("s< of 32 bits", house.run(0, some), 0);
    }

    private static void memory() {
        String put = "r1 = 0x8182838485868788 ll\n*(u64 *)(r10 - 8) = r1\n*(u64 *)(r10 - 16) = -2\n";
        result(put + "r0 = *(u64 *)(r10 - 8)\nexit", 0x8182838485868788L);
        result(put + "r0 = *(u32 *)(r10 - 8)\nexit", 0x85868788L);
        result(put + "r0 = *(u16 *)(r10 - 8)\nexit", 0x8788);
        result(put + "r0 = *(u8 *)(r10 - 1)\nexit", 0x81);
        result(put + "r0 = *(s32 *)(r10 - 8)\nexit", 0x85868788);
        result(put + "r0 = *(s16 *)(r10 - 7)\nexit", (short) 0x8687);
        result(put + "r0 = *(s8 *)(r10 - 1)\nexit", -127);
        result(put + "r0 = *(u64 *)(r10 - 12)\nexit", 0x85868788FFFFFFFFL);
        result(put + "*(u32 *)(r10 - 16) = r1\nr0 = *(u64 *)(r10 - 16)\nexit", 0xFFFFFFFF85868788L);
        result(put + "*(u16 *)(r10 - 16) = r1\nr0 = *(u64 *)(r10 - 16)\nexit", 0xFFFFFFFFFFFF8788L);
        result(put + "*(u8 *)(r10 - 15) = r1\nr0 = *(u64 *)(r10 - 16)\nexit", 0xFFFFFFFFFFFF88FEL);
        result(put + "*(u32 *)(r10 - 4) = -1\nr0 = *(u64 *)(r10 - 8)\nexit", 0xFFFFFFFF85868788L);
        result(put + "*(u64 *)(r10 - 12) = 1\nr0 = *(u64 *)(r10 - 8)\nexit", 0x8182838400000000L);
        result("r2 = r10\nr2 += -128\n*(u64 *)(r2 + 0) = r2\nr3 = *(u64 *)(r10 - 128)\n*(u8 *)(r3 + 8) = 9\nr0 = *(u8 *)(r10 - 120)\nexit", 9);
    }

    private static void exchange(String text, long stood, long register, long zeroth) {
        String put = "r0 = 7\nr1 = 0x0F0F0F0F0F0F0F0F ll\n*(u64 *)(r10 - 8) = r1\nr1 = 0x8000000011111111 ll\n*(u64 *)(r10 - 16) = 7\n";
        String mode = text.contains("u32") ? "of 4 bytes" : "of 8 bytes";
        result(put + text + "\nr0 = *(u64 *)(r10 - 8)\nexit", stood);
        result(put + text + "\nr0 = r1\nexit", register);
        House.due(text + " " + mode + ": r0", new House().run(0, put + text + "\nr0 += 0\nexit"), zeroth);
    }

    private static void exchanges() {
        long x = 0x0F0F0F0F0F0F0F0FL;
        long y = 0x8000000011111111L;
        long f = 0xFFFFFFFFL;
        exchange("lock *(u64 *)(r10 - 8) += r1", x + y, y, 7);
        exchange("lock *(u64 *)(r10 - 8) |= r1", x | y, y, 7);
        exchange("lock *(u64 *)(r10 - 8) &= r1", x & y, y, 7);
        exchange("lock *(u64 *)(r10 - 8) ^= r1", x ^ y, y, 7);
        exchange("lock *(u32 *)(r10 - 8) += r1", x + (y & f), y, 7);
        exchange("fetch *(u64 *)(r10 - 8) += r1", x + y, x, 7);
        exchange("fetch *(u32 *)(r10 - 8) += r1", x + (y & f), x & f, 7);
        exchange("fetch *(u32 *)(r10 - 8) ^= r1", x ^ y & f, x & f, 7);
        exchange("fetch *(u64 *)(r10 - 8) &= r1", x & y, x, 7);
        exchange("xchg *(u64 *)(r10 - 8) r1", y, x, 7);
        exchange("xchg *(u32 *)(r10 - 8) r1", x & ~f | y & f, x & f, 7);
        exchange("cmpxchg *(u64 *)(r10 - 8) r1", x, y, x);
        exchange("cmpxchg *(u64 *)(r10 - 16) r1", x, y, 7);
        exchange("r0 = 0x0F0F0F0F0F0F0F0F ll\ncmpxchg *(u64 *)(r10 - 8) r1", y, y, x);
        exchange("r0 = 0x550F0F0F0F ll\ncmpxchg *(u32 *)(r10 - 8) r1", x & ~f | y & f, y, x & f);
        result("r0 = 3\nr1 = 9\n*(u64 *)(r10 - 8) = 3\ncmpxchg *(u64 *)(r10 - 8) r1\nr0 = *(u64 *)(r10 - 8)\nexit", 9);
        result("r0 = 3\n*(u64 *)(r10 - 8) = 4\nfetch *(u64 *)(r10 - 8) += r0\nexit", 4);
    }

    private static void functions() {
        result("r1 = 3\nr6 = 100\ncall f\nr0 += r6\nexit\nf: r6 = r1\nr6 *= 2\nr0 = r6\nexit", 106);
        result("r1 = r10\nr1 += -8\n*(u64 *)(r10 - 8) = 5\ncall f\nr0 = *(u64 *)(r10 - 8)\nexit\n"
                + "f: r2 = *(u64 *)(r1 + 0)\n*(u64 *)(r10 - 8) = 1\nr2 += 1\n*(u64 *)(r1 + 0) = r2\nr0 = 0\nexit", 6);
        result("call a\nr6 = r0\ncall a\nr0 += r6\nexit\na: r6 = 10\ncall b\nr0 += r6\nexit\nb: r6 = 5\nr0 = 1\nexit", 22);
        House house = new House();
        House.due("judge", house.judge(0, "call +1\nexit\ncall +1\nexit\ncall +1\nexit\nr0 = 4\nexit"), 0);
        House.due("steps", house.house.run(0, 0), 8);
        House.due("steps", house.house.run(0, 1), 8);
    }

    private static House withMaps() {
        House house = new House();
        house.house.map(0, 0, 4, 8, 4);
        house.house.map(1, 1, 4, 8, 2);
        house.house.map(2, 2, 0, 0, 3);
        house.house.map(3, 3, 0, 0, 2);
        return house;
    }

    private static final String READ = "if r0 == 0 goto +1\nr0 = *(u64 *)(r0 + 0)\nexit";

    private static void keyed() {
        House house = withMaps();
        FilterHouse x = house.house;
        String find = "*(u32 *)(r10 - 8) = %d\nr2 = r10\nr2 += -8\nr1 = map %d\ncall 1\n" + READ;
        house.tape(1, 0, 0, 0, 5, 0, 0, 0, 0, 0, 0, 1).house.put(0, 0);
        House.due("a ROW's value", house.run(0, find.formatted(1, 0)), 0x0100000000000005L);
        House.due("beyond", house.run(0, find.formatted(4, 0)), 0);
        House.due("below", house.run(0, find.formatted(-1, 0)), 0);
        House.due("not there", house.run(0, find.formatted(1, 1)), 0);
        String update = "*(u32 *)(r10 - 8) = %d\n*(u64 *)(r10 - 16) = %d\nr2 = r10\nr2 += -8\nr3 = r10\nr3 += -16\nr1 = map %d\nr4 = %d\ncall 2\nexit";
        int[][] cases = {{7, 70, 1, 2, -2}, {7, 70, 1, 0, 0}, {7, 71, 1, 2, 0}, {7, 72, 1, 1, -17}, {7, 72, 1, 3, -22}, {7, 72, 1, -1, -22}, {8, 80, 1, 0, 0},
            {9, 90, 1, 0, -7}, {9, 90, 1, 1, -7}, {3, 33, 0, 0, 0}, {3, 33, 0, 2, 0}, {3, 33, 0, 1, -17}, {4, 33, 0, 0, -7}, {4, 33, 0, 5, -22}};
        for (int[] c : cases) {
            House.due("judge of an update", house.judge(1, update.formatted(c[0], c[1], c[2], c[3])), 0);
            x.run(1, 0);
            House.due("update of " + java.util.Arrays.toString(c), x.result(), c[4]);
        }
        House.due("updated", house.run(0, find.formatted(7, 1)), 71);
        House.due("updated", house.run(0, find.formatted(3, 0)), 33);
        House.due("flags have 64 bits", house.judge(1, update.formatted(7, 5, 1, 0).replace("r4 = 0", "r4 = 0x100000000 ll")), 0);
        x.run(1, 1);
        House.due("flags have 64 bits", x.result(), -22);
        String drop = "*(u32 *)(r10 - 8) = %d\nr2 = r10\nr2 += -8\nr1 = map %d\ncall 3\nexit";
        House.due("judge", house.judge(1, drop.formatted(7, 1)), 0);
        x.run(1, 0);
        House.due("removed", x.result(), 0);
        x.run(1, 1);
        House.due("not there", x.result(), -2);
        House.due("judge", house.judge(1, drop.formatted(1, 0)), 0);
        x.run(1, 1);
        House.due("of a ROW", x.result(), -22);
        House.due("size", x.size(1), 1);
    }

    private static void cells() {
        House house = withMaps();
        FilterHouse x = house.house;
        // what is held of a removed entry's cell stays, also when its key comes again
        String stays = "*(u32 *)(r10 - 8) = 7\n*(u64 *)(r10 - 16) = 5\nr2 = r10\nr2 += -8\nr3 = r10\nr3 += -16\nr1 = map 1\nr4 = 0\ncall 2\n"
                + "r2 = r10\nr2 += -8\nr1 = map 1\ncall 1\nif r0 != 0 goto +1\nexit\nr6 = r0\nr2 = r10\nr2 += -8\nr1 = map 1\ncall 3\n"
                + "*(u64 *)(r10 - 16) = 6\nr2 = r10\nr2 += -8\nr3 = r10\nr3 += -16\nr1 = map 1\nr4 = 1\ncall 2\nif r0 != 0 goto +4\n"
                + "r0 = *(u64 *)(r6 + 0)\n*(u64 *)(r6 + 0) = 44\nr7 = *(u64 *)(r6 + 0)\nr0 += r7\nexit";
        House.due("judge", house.judge(0, stays), 0);
        House.due("taken", x.taken(0), true);
        x.run(0, 0);
        House.due("what is held", x.result(), 49);
        house.tape(7, 0, 0, 0).house.get(1);
        House.due("what came again", x.out(0), 6);
        // 33 cells in one run: entries are put and removed again and again
        String often = "r6 = 0\nL: *(u32 *)(r10 - 8) = 9\n*(u64 *)(r10 - 16) = r6\nr2 = r10\nr2 += -8\nr3 = r10\nr3 += -16\nr1 = map 1\nr4 = 1\ncall 2\n"
                + "if r0 != 0 goto +6\nr2 = r10\nr2 += -8\nr1 = map 1\ncall 3\nr6 += 1\nif r6 < 40 goto L\nr0 <<= 8\nr0 |= r6\nexit";
        often = often.replace("goto +6", "goto E").replace("r0 <<= 8", "E: r0 <<= 8");
        House.due("judge", house.judge(1, often), 0);
        x.run(1, 0);
        // one cell is that of key 7; the 32nd new one finds none free
        House.due("no cell is free", x.result(), -12 << 8 | 31);
        x.run(1, 1);
        House.due("they are free in the next run", x.result(), -12 << 8 | 31);
        House.due("put", house.tape(1, 0, 0, 0, 1, 1, 1, 1, 1, 1, 1, 1).house.put(1, 1), 0);
        House.due("size", x.size(1), 2);
    }

    private static void traces() {
        House house = withMaps();
        FilterHouse x = house.house;
        String text = "r2 = 0x0807060504030201 ll\n*(u64 *)(r10 - 8) = r2\nr1 = r10\nr1 += -7\nr2 = %d\ncall 6\nexit";
        House.due("answer", house.run(0, text.formatted(3)), 3);
        House.due("traces", x.traces(), 6);
        int[] bytes = {2, 3, 4, 2, 3, 4};
        for (int i = 0; i < 6; i++) {
            House.due("trace " + i, x.trace(i), bytes[i]);
        }
        House.due("trace 6", x.trace(6), -1);
        House.due("trace -1", x.trace(-1), -1);
        House.due("tear", x.tear(), 6);
        House.due("traces", x.traces(), 0);
        House.due("trace 0", x.trace(0), -1);
        House.due("tear", x.tear(), 0);
        String much = "r6 = 0\nL: *(u64 *)(r10 - 8) = -1\nr2 = 7\nr1 = r10\nr1 += -7\ncall 6\nr6 += 1\nif r6 < 200 goto L\nexit";
        House.due("answer", house.run(0, much), 7);
        House.due("traces", x.traces(), 2000);
        House.due("trace 1999", x.trace(1999), 255);
        House.due("trace 2000", x.trace(2000), -1);
        House.due("answer when it is full", house.run(0, text.formatted(5)), 5);
        House.due("traces", x.traces(), 2000);
    }

    private static void chances() {
        House house = new House();
        FilterHouse x = house.house;
        House.due("judge", house.judge(0, "call 7\nr6 = r0\ncall 7\nr0 <<= 32\nr0 |= r6\nexit"), 0);
        x.chances(12345);
        long c = 12345;
        for (int way = 0; way < 2; way++) {
            c = c * 6364136223846793005L + 1442695040888963407L;
            long first = c >>> 32;
            c = c * 6364136223846793005L + 1442695040888963407L;
            x.run(0, way);
            House.due("chances by way " + way, x.result(), c >>> 32 << 32 | first);
        }
        x.chances(-1);
        x.run(0, 0);
        House.due("of -1", x.result() & 0xFFFFFFFFL, -6364136223846793005L + 1442695040888963407L >>> 32);
    }

    private static void counted() {
        House house = new House();
        FilterHouse x = house.house;
        House.due("judge", house.judge(0, "r1 = 5 ll\ncall 5\nexit"), 0);
        House.due("steps of the run", x.run(0, 0), 3);
        House.due("5", x.result(), 2);
        House.due("steps", x.steps(), 3);
        House.due("steps of the run", x.run(0, 1), 3);
        House.due("5", x.result(), 5);
        House.due("steps", x.steps(), 6);
        House.due("steps of the run", x.run(0, 0), 3);
        House.due("5", x.result(), 8);
    }

    private static void tails() {
        House house = withMaps();
        FilterHouse x = house.house;
        String tail = "r6 = r1\nr2 = map 2\nr3 = %s\ncall 12\nexit";
        House.due("judge", house.judge(0, tail.formatted("1")), 0);
        House.due("nothing there", house.run(0, tail.formatted("1")), -1);
        House.due("tails", x.tails(), 0);
        x.link(2, 1, 5);
        House.due("no program", house.run(0, tail.formatted("1")), -1);
        House.due("assemble", house.assemble(5, "r0 = *(u32 *)(r1 + 12)\nexit"), 2);
        House.due("not taken", house.run(0, tail.formatted("1")), -1);
        House.due("judge", x.judge(5), 0);
        x.given(31, 0);
        House.due("goes on", house.run(0, tail.formatted("1")), 31);
        House.due("tails", x.tails(), 1);
        House.due("steps", x.run(0, 1), 6);
        House.due("index beyond", house.run(0, tail.formatted("3")), -1);
        House.due("index without sign", house.run(0, tail.formatted("-1")), -1);
        House.due("index has 64 bits", house.run(0, tail.formatted("0x100000001 ll")), -1);
        House.due("tails", x.tails(), 0);
        // with itself: eight times, the ninth answers -1
        x.link(2, 0, 0);
        House.due("itself", house.run(0, tail.formatted("0")), -1);
        House.due("tails", x.tails(), 8);
        House.due("steps", x.run(0, 0), 9 * 4 + 1);
        House.due("judge of what is wrong", house.judge(5, "exit"), 3);
        House.due("no more taken", house.run(0, tail.formatted("1")), -1);
        x.link(2, 1, -1);
        House.due("none", house.run(0, tail.formatted("1")), -1);
        // nothing of the first program's but the context is there; what it did stays
        House.due("judge", house.judge(5, "r0 = *(u32 *)(r1 + 12)\nexit"), 0);
        x.link(2, 1, 5);
        House.due("mark", house.run(0, "*(u32 *)(r1 + 12) = 8\n" + tail.formatted("1")), 8);
    }

    private static void packetHelpers() {
        House house = new House();
        FilterHouse x = house.house;
        house.tape(1, 2, 3, 4, 5, 6).house.packet();
        String read = "*(u64 *)(r10 - 8) = -1\nr2 = %s\nr3 = r10\nr3 += -8\nr4 = %d\ncall 26\nr6 = r0\nr0 = *(u64 *)(r10 - 8)\n";
        House.due("bytes", house.run(0, read.formatted("1", 3) + "exit"), 0xFFFFFFFFFF040302L);
        House.due("answer", house.run(0, read.formatted("1", 3) + "r0 = r6\nexit"), 0);
        House.due("from the begin", house.run(0, read.formatted("0", 2) + "exit"), 0xFFFFFFFFFFFF0201L);
        House.due("all of it", house.run(0, read.formatted("0", 6) + "exit"), 0xFFFF060504030201L);
        House.due("a byte too many", house.run(0, read.formatted("0", 7) + "exit"), 0xFF00000000000000L);
        House.due("to the end", house.run(0, read.formatted("4", 2) + "exit"), 0xFFFFFFFFFFFF0605L);
        House.due("beyond", house.run(0, read.formatted("5", 2) + "exit"), 0xFFFFFFFFFFFF0000L);
        House.due("answer", house.run(0, read.formatted("5", 2) + "r0 = r6\nexit"), -14);
        House.due("at the end", house.run(0, read.formatted("6", 1) + "r0 = r6\nexit"), -14);
        House.due("without sign", house.run(0, read.formatted("-1", 2) + "r0 = r6\nexit"), -14);
        House.due("64 bits", house.run(0, read.formatted("0x100000000 ll", 2) + "r0 = r6\nexit"), -14);
        String move = "r2 = %s\ncall 44\nexit";
        House.due("judge", house.judge(0, move.formatted("2")), 0);
        House.due("steps", x.run(0, 0), 3);
        House.due("answer", x.result(), 0);
        House.due("length", x.length(), 4);
        House.due("byte 0", x.packetByte(0), 3);
        House.due("judge", house.judge(0, move.formatted("-3")), 0);
        x.run(0, 1);
        House.due("length", x.length(), 7);
        int[] bytes = {0, 0, 0, 3, 4, 5, 6};
        for (int i = 0; i < 7; i++) {
            House.due("byte " + i, x.packetByte(i), bytes[i]);
        }
        House.due("too many", house.run(0, move.formatted("8")), -22);
        House.due("too long", house.run(0, move.formatted("-250")), -22);
        House.due("the least number", house.run(0, move.formatted("-2147483648")), -22);
        House.due("length", x.length(), 7);
        House.due("judge", house.judge(0, move.formatted("-249")), 0);
        x.run(0, 0);
        House.due("length", x.length(), 256);
        House.due("byte 252", x.packetByte(252), 3);
        House.due("judge", house.judge(0, move.formatted("0x7000000FC ll")), 0);
        x.run(0, 0);
        House.due("lowest 32 bits", x.length(), 4);
        House.due("judge", house.judge(0, move.formatted("4")), 0);
        x.run(0, 1);
        House.due("all bytes", x.length(), 0);
        // the context tells it anew
        house.tape(1, 2, 3, 4, 5, 6).house.packet();
        House.due("judge", house.judge(0, "r6 = r1\nr2 = 1\ncall 44\nr2 = *(u32 *)(r6 + 0)\nr3 = *(u32 *)(r6 + 4)\nr0 = *(u32 *)(r6 + 8)\nr4 = r2\nr4 += 5\n"
                + "if r4 > r3 goto +3\nr5 = *(u8 *)(r2 + 4)\nr0 <<= 8\nr0 |= r5\nexit"), 0);
        x.run(0, 0);
        House.due("length and last byte", x.result(), 5 << 8 | 6);
        x.run(0, 1);
        House.due("length alone", x.result(), 4);
    }

    private static void recordHelpers() {
        House house = withMaps();
        FilterHouse x = house.house;
        String two = "r1 = map 3\nr2 = 8\nr3 = 0\ncall 131\nif r0 == 0 goto E\nr6 = r0\nr1 = map 3\nr2 = 4\nr3 = 0\ncall 131\nif r0 == 0 goto F\nr7 = r0\n"
                + "r1 = map 3\nr2 = 4\nr3 = 0\ncall 131\nif r0 != 0 goto G\n*(u8 *)(r6 + 0) = 1\n*(u8 *)(r7 + 0) = 2\n"
                + "r1 = r7\nr2 = 9\ncall 132\nr8 = r0\nF: r1 = r6\nr2 = 0\ncall 132\nr0 = 5\nE: exit\n"
                + "G: r1 = r0\nr2 = 0\ncall 133\nr1 = r7\nr2 = 0\ncall 133\nr1 = r6\nr2 = 0\ncall 133\nr0 = 6\nexit";
        House.due("judge", house.judge(0, two), 0);
        x.run(0, 0);
        House.due("MOST are held", x.result(), 5);
        House.due("size", x.size(3), 2);
        House.due("the one finished first", x.next(3), 4);
        House.due("its byte", x.out(0), 2);
        House.due("the other", x.next(3), 8);
        House.due("its byte", x.out(0), 1);
        House.due("none left", x.next(3), -1);
        x.run(0, 1);
        x.run(0, 1);
        House.due("MOST are finished", x.result(), 0);
        House.due("judge", house.judge(1, "r1 = map 3\nr2 = 8\nr3 = 0\ncall 131\nif r0 == 0 goto E\nr6 = *(u64 *)(r0 + 0)\n*(u64 *)(r0 + 0) = -1\nr1 = r0\nr2 = 0\ncall 133\n"
                + "r0 |= r6\nE: exit"), 0);
        x.next(3);
        x.run(1, 0);
        House.due("all 0", x.result(), 0);
        x.run(1, 1);
        House.due("all 0 again", x.result(), 0);
        for (int helper = 132; helper <= 133; helper++) {
            x.next(3);
            House.due("judge", house.judge(1, "r1 = map 3\nr2 = 8\nr3 = 0\ncall 131\nif r0 == 0 goto E\nr1 = r0\nr2 = 5\ncall " + helper
                    + "\nr0 += 7\nE: exit"), 0);
            x.run(1, helper - 132);
            House.due("answer of " + helper, x.result(), 7);
            House.due("size behind " + helper, x.size(3), 133 - helper);
        }
        House.due("next", x.next(3), -1);
    }

    /** Maps of these kinds that are the first and the last one. */
    private static void otherMaps() {
        for (int m = 0; m < 8; m += 7) {
            House house = new House();
            FilterHouse x = house.house;
            x.map(m, 3, 0, 0, 16);
            x.map(7 - m, 2, 0, 0, 16);
            String one = "r1 = map " + m + "\nr2 = 1\nr3 = 0\ncall 131\nif r0 == 0 goto E\n*(u8 *)(r0 + 0) = 200\nr1 = r0\nr2 = 0\ncall 132\nr0 = 3\nE: exit";
            House.due("judge", house.judge(0, one), 0);
            for (int i = 0; i < 17; i++) {
                x.run(0, i % 2);
                House.due("record " + i, x.result(), i < 16 ? 3 : 0);
            }
            for (int i = 0; i < 16; i++) {
                House.due("next " + i, x.next(m), 1);
                House.due("its byte", x.out(0), 200);
            }
            House.due("none", x.next(m), -1);
            x.link(7 - m, 15, 1);
            House.due("judge", house.judge(1, "r0 = 77\nexit"), 0);
            String tail = "r2 = map " + (7 - m) + "\nr3 = %d\ncall 12\nexit";
            House.due("the last index", house.run(2, tail.formatted(15)), 77);
            House.due("behind it", house.run(2, tail.formatted(16)), -1);
        }
    }

    private static void refused() {
        House house = new House();
        FilterHouse x = house.house;
        House.due("judge", house.judge(0, "r0 = 9\nexit"), 0);
        x.run(0, 0);
        House.due("way 2", x.run(0, 2), -1);
        House.due("way -1", x.run(0, -1), -1);
        House.due("no slot", x.run(8, 0) + x.run(-1, 0), -2);
        House.due("no program", x.run(1, 0), -1);
        house.assemble(1, "r0 = 1\nexit");
        House.due("not judged", x.run(1, 0), -1);
        house.judge(1, "exit");
        House.due("not taken", x.run(1, 1), -1);
        House.due("result stays", x.result(), 9);
        House.due("steps stay", x.steps(), 2);
    }
}
