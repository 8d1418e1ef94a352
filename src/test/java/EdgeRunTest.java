/** Part 4, RUNS, and promises 23 to 35 at the edges that the document names; all of it on two objects, one for each way. */
public final class EdgeRunTest {
    /** The same calls come to both; the first one runs by the words, the second one by the plain machine. */
    private static House[] both;

    public static void main(String[] args) {
        beforeAny();
        packetSizes();
        packetInRuns();
        contextNumbers();
        markAndSource();
        functionFrames();
        memoryEnds();
        traceEnds();
        chances();
        stepsCounted();
        tailEnds();
        tailState();
        packetBytes();
        packetBeginning();
        refused();
        House.end();
    }

    private static void begin() {
        both = new House[] {new House(), new House()};
        for (House h : both) {
            h.house.map(0, 0, 4, 8, 4);
            h.house.map(2, 2, 0, 0, 16);
        }
    }

    private static void packet(byte[] bytes) {
        for (House h : both) {
            House.due("packet", h.tape(bytes).house.packet(), bytes.length);
        }
    }

    private static byte[] counted(int n) {
        byte[] all = new byte[n];
        for (int i = 0; i < n; i++) {
            all[i] = (byte) (i + 1);
        }
        return all;
    }

    private static void judged(int slot, String text) {
        for (House h : both) {
            House.due("judge of <" + text + ">", h.judge(slot, text), 0);
        }
    }

    private static void runs(int slot, int steps, long result) {
        for (int way = 0; way < 2; way++) {
            House.due("steps by way " + way, both[way].house.run(slot, way), steps);
            House.due("result by way " + way, both[way].house.result(), result);
        }
    }

    private static void result(String text, long result) {
        judged(0, text);
        for (int way = 0; way < 2; way++) {
            both[way].house.run(0, way);
            House.due("result by way " + way + " of <" + text + ">", both[way].house.result(), result);
        }
    }

    private static void packetIs(byte[] due) {
        for (House h : both) {
            House.due("length", h.house.length(), due.length);
            for (int i = 0; i < due.length; i++) {
                House.due("byte " + i + " of the packet", h.house.packetByte(i), due[i] & 255);
            }
            House.due("byte behind the packet", h.house.packetByte(due.length), -1);
        }
    }

    /** What result(), tails(), steps() and the others answer before any. */
    private static void beforeAny() {
        FilterHouse x = new FilterHouse();
        House.due("result before any", x.result(), 0);
        House.due("tails before any", x.tails(), 0);
        House.due("steps before any", x.steps(), 0);
        House.due("mark at first", x.mark(), 0);
        House.due("length at first", x.length(), 0);
        House.due("byte 0 at first", x.packetByte(0), -1);
        House.due("traces at first", x.traces(), 0);
        House.due("trace at first", x.trace(0), -1);
        House.due("tear at first", x.tear(), 0);
        House.due("run of no program", x.run(0, 0), -1);
        House.due("result behind what was refused", x.result(), 0);
        House.due("tails behind it", x.tails(), 0);
        House.due("steps behind it", x.steps(), 0);
        begin();
        // no packet, mark and source 0, chances 1
        result("r0 = *(u32 *)(r1 + 8)\nexit", 0);
        result("r0 = *(u32 *)(r1 + 12)\nexit", 0);
        result("r0 = *(u32 *)(r1 + 16)\nexit", 0);
        result("r2 = *(u32 *)(r1 + 0)\nr3 = *(u32 *)(r1 + 4)\nr0 = 1\nif r2 < r3 goto +1\nr0 = 2\nexit", 2);
        result("call 7\nexit", 6364136223846793005L + 1442695040888963407L >>> 32);
    }

    /** "A PACKET has 0 .. 256 bytes"; "NONE: more than 256". */
    private static void packetSizes() {
        FilterHouse x;
        for (int n : new int[] {0, 1, 2, 20, 255, 256}) {
            House h = new House();
            x = h.house;
            House.due("packet of " + n, h.tape(counted(n)).house.packet(), n);
            House.due("length", x.length(), n);
            House.due("its first byte", x.packetByte(0), n == 0 ? -1 : 1);
            House.due("its last byte", x.packetByte(n - 1), n == 0 ? -1 : n & 255);
            for (int i : new int[] {-1, n, 256, Integer.MIN_VALUE, Integer.MAX_VALUE}) {
                House.due("byte " + i, x.packetByte(i), -1);
            }
            for (int more : new int[] {257, 258, 300, 4000}) {
                House.due("packet of " + more, h.tape(new byte[more]).house.packet(), -1);
                House.due("the tape is used up", x.cut(1), -1);
                House.due("length stays", x.length(), n);
                House.due("bytes stay", x.packetByte(n / 2), n == 0 ? -1 : n / 2 + 1);
            }
            House.due("an empty tape is a packet of no bytes", x.packet(), 0);
            House.due("length", x.length(), 0);
            House.due("byte 0", x.packetByte(0), -1);
        }
    }

    private static String within(int n, String then) {
        return "r2 = *(u32 *)(r1 + 0)\nr3 = *(u32 *)(r1 + 4)\nr0 = 0\nr4 = r2\nr4 += " + n + "\nif r4 <= r3 goto +1\nexit\n" + then + "exit\n";
    }

    /** "where the packet begins, where it ends (behind its last byte), how many bytes it has". */
    private static void packetInRuns() {
        begin();
        for (int n : new int[] {0, 1, 2, 255, 256}) {
            packet(counted(n));
            result("r0 = *(u32 *)(r1 + 8)\nexit", n);
            for (int more = -1; more <= 1; more++) {
                boolean in = more <= 0;
                int reach = n + more;
                if (reach < 1) {
                    continue;
                }
                result(within(reach, "r0 = *(u8 *)(r2 + " + (reach - 1) + ")\n"), in ? reach & 255 : 0);
            }
            String[] tests = {"r2 > r3", "r2 >= r3", "r2 < r3", "r2 <= r3", "r3 > r2", "r3 >= r2", "r3 < r2", "r3 <= r2"};
            boolean[] so = {false, n == 0, n > 0, true, n > 0, true, false, n == 0};
            for (int i = 0; i < tests.length; i++) {
                result("r2 = *(u32 *)(r1 + 0)\nr3 = *(u32 *)(r1 + 4)\nr0 = 1\nif " + tests[i] + " goto +1\nr0 = 0\nexit", so[i] ? 1 : 0);
            }
            if (n < 255) {
                continue;
            }
            begin();
        }
        begin();
        packet(counted(256));
        // a part that is added, at its end and beyond
        String part = "r7 = *(u32 *)(r1 + 12)\nr7 &= 65535\nr2 = *(u32 *)(r1 + 0)\nr3 = *(u32 *)(r1 + 4)\nr0 = 0\nr2 += r7\nr4 = r2\nr4 += 1\nif r4 <= r3 goto +1\nexit\n"
                + "r0 = *(u8 *)(r2 + 0)\nexit\n";
        judged(0, part);
        for (int i : new int[] {0, 1, 254, 255, 256, 257, 65535}) {
            for (House h : both) {
                h.house.given(i, 0);
            }
            runs(0, i < 256 ? 11 : 10, i < 256 ? i + 1 & 255 : 0);
        }
        // what is put there stays
        result(within(256, "*(u8 *)(r2 + 0) = 200\n*(u8 *)(r2 + 255) = 201\n*(u16 *)(r2 + 100) = 258\n"), 0);
        byte[] due = counted(256);
        due[0] = (byte) 200;
        due[255] = (byte) 201;
        due[100] = 2;
        due[101] = 1;
        packetIs(due);
    }

    /** Places and maps are numbers that are not 0. */
    private static void contextNumbers() {
        begin();
        for (String pointer : new String[] {"r2 = r10", "r2 = r1", "r2 = map 0", "r2 = *(u32 *)(r1 + 0)", "r2 = *(u32 *)(r1 + 4)"}) {
            result(pointer + "\nr0 = 1\nif r2 != 0 goto +1\nr0 = 2\nexit", 1);
            result(pointer + "\nr0 = 1\nif r2 == 0 goto +1\nr0 = 2\nexit", 2);
        }
    }

    /** Promises 26 and 27. */
    private static void markAndSource() {
        begin();
        for (int[] pair : new int[][] {{-1, 1}, {Integer.MIN_VALUE, Integer.MAX_VALUE}, {Integer.MAX_VALUE, Integer.MIN_VALUE}, {0, -1}}) {
            for (House h : both) {
                h.house.given(pair[0], pair[1]);
                House.due("mark", h.house.mark(), pair[0]);
            }
            result("r0 = *(u32 *)(r1 + 12)\nexit", pair[0] & 0xFFFFFFFFL);
            result("r0 = *(u32 *)(r1 + 16)\nexit", pair[1] & 0xFFFFFFFFL);
            for (House h : both) {
                House.due("mark behind a run that left it", h.house.mark(), pair[0]);
            }
        }
        result("*(u32 *)(r1 + 12) = -5\nr0 = *(u32 *)(r1 + 12)\nexit", 0xFFFFFFFBL);
        for (House h : both) {
            House.due("mark as the run left it", h.house.mark(), -5);
            House.due("a run that is refused", h.house.run(0, 2), -1);
            House.due("mark stays", h.house.mark(), -5);
        }
        result("r2 = 0x123456789 ll\n*(u32 *)(r1 + 12) = r2\nr0 = 0\nexit", 0);
        for (House h : both) {
            House.due("its lowest four bytes", h.house.mark(), 0x23456789);
        }
        // the source is as it was given
        result("r0 = *(u32 *)(r1 + 16)\nexit", 0xFFFFFFFFL);
        for (House h : both) {
            h.house.given(7, 8);
            House.due("given", h.house.mark(), 7);
        }
    }

    /** "its own stack (r10); r0 .. r9 of the caller but r0 are there again when it EXITs". */
    private static void functionFrames() {
        begin();
        StringBuilder set = new StringBuilder();
        StringBuilder change = new StringBuilder();
        StringBuilder sum = new StringBuilder("r0 = 0\n");
        for (int r = 6; r <= 9; r++) {
            set.append("r").append(r).append(" = ").append(r * 11).append("\n");
            change.append("r").append(r).append(" = ").append(-r).append("\n");
            sum.append("r0 <<= 8\nr0 |= r").append(r).append("\n");
        }
        long kept = (((66 << 8 | 77) << 8 | 88) << 8 | 99) & 0xFFFFFFFFL;
        result(set + "call f\n" + sum + "exit\nf: " + change + "r0 = 1\nexit\n", kept);
        result(set + "call f\n" + sum + "exit\nf: " + change + "call g\nr0 = 1\nexit\ng: r6 = 1\nr7 = 1\nr8 = 1\nr9 = 1\ncall h\nr0 = 0\nexit\nh: r9 = 5\nr0 = 4\nexit\n", kept);
        // r0 is that of the function
        result("r0 = 5\ncall f\nexit\nf: r0 = -7\nexit\n", -7);
        // r1 .. r5 come to it
        result("r1 = 1\nr2 = 2\nr3 = 3\nr4 = 4\nr5 = 5\ncall f\nexit\nf: r0 = r1\nr0 *= r2\nr0 *= r3\nr0 *= r4\nr0 *= r5\nexit\n", 120);
        // stacks of four frames, at both of their ends
        StringBuilder deep = new StringBuilder();
        for (int f = 1; f <= 4; f++) {
            deep.append("f").append(f).append(": *(u64 *)(r10 - 8) = ").append(f).append("\n*(u64 *)(r10 - 128) = ").append(16 * f).append("\n");
            deep.append(f < 4 ? "call f" + (f + 1) + "\n" : "r0 = 0\n");
            deep.append("r6 = *(u64 *)(r10 - 8)\nr7 = *(u64 *)(r10 - 128)\nr0 <<= 8\nr0 |= r6\nr0 |= r7\nexit\n");
        }
        result(deep.toString(), 0x44332211L);
        // a place on the caller's stack is the same there
        result("*(u64 *)(r10 - 8) = 5\n*(u64 *)(r10 - 128) = 6\nr1 = r10\ncall f\nr6 = *(u64 *)(r10 - 8)\nr7 = *(u64 *)(r10 - 128)\nr0 <<= 8\nr0 |= r6\nr0 <<= 8\nr0 |= r7\nexit\n"
                + "f: *(u64 *)(r10 - 8) = 1\n*(u64 *)(r10 - 128) = 2\nr2 = *(u64 *)(r1 - 8)\nr2 += 10\n*(u64 *)(r1 - 8) = r2\nr0 = *(u64 *)(r1 - 128)\nexit\n", 0x060F06);
        // a pointer to the caller's stack that is put there and back
        result("r6 = r10\n*(u64 *)(r10 - 16) = r6\n*(u64 *)(r10 - 8) = 3\nr1 = r10\ncall f\nr6 = *(u64 *)(r10 - 16)\nr6 = *(u64 *)(r6 - 8)\nr0 += r6\nexit\nf: r2 = *(u64 *)(r1 - 16)\n"
                + "r0 = *(u64 *)(r2 - 8)\n*(u64 *)(r2 - 8) = 40\nexit\n", 43);
    }

    /** "numbers have their lowest byte first"; puts and loads at both ends of the stack, and of values of 64 bytes. */
    private static void memoryEnds() {
        begin();
        String fill = "r6 = 0x8182838485868788 ll\n";
        for (int a : new int[] {-128, -8}) {
            String put = fill + "*(u64 *)(r10 - " + -a + ") = r6\n";
            for (int n : new int[] {1, 2, 4, 8}) {
                for (int k = 0; k + n <= 8; k++) {
                    long due = 0x8182838485868788L >>> 8 * k;
                    long plain = n == 8 ? due : due & (1L << 8 * n) - 1;
                    result(put + "r0 = *(u" + 8 * n + " *)(r10 - " + (-a - k) + ")\nexit", plain);
                    if (n < 8) {
                        result(put + "r0 = *(s" + 8 * n + " *)(r10 - " + (-a - k) + ")\nexit", plain << 64 - 8 * n >> 64 - 8 * n);
                    }
                }
            }
            begin();
        }
        for (int n : new int[] {1, 2, 4, 8}) {
            long mask = n == 8 ? -1 : (1L << 8 * n) - 1;
            for (int k = 0; k + n <= 8; k++) {
                String put = "*(u64 *)(r10 - 8) = 0\n" + fill;
                result(put + "*(u" + 8 * n + " *)(r10 - " + (8 - k) + ") = r6\nr0 = *(u64 *)(r10 - 8)\nexit", (0x8182838485868788L & mask) << 8 * k);
                result(put + "*(u" + 8 * n + " *)(r10 - " + (8 - k) + ") = -2\nr0 = *(u64 *)(r10 - 8)\nexit", (-2 & mask) << 8 * k);
            }
            begin();
        }
        // exchanges of 4 and 8 bytes: 0s above what comes to the register
        for (int n : new int[] {4, 8}) {
            long mask = n == 8 ? -1 : 0xFFFFFFFFL;
            long x = 0xF1F2F3F4F5F6F7F8L;
            long y = 0x8182838485868788L;
            String put = "r7 = " + x + " ll\n*(u64 *)(r10 - 8) = r7\n" + fill;
            String place = " *(u" + 8 * n + " *)(r10 - 8) ";
            String[] signs = {"+=", "|=", "&=", "^="};
            long[] made = {x + y, x | y, x & y, x ^ y};
            for (int i = 0; i < 4; i++) {
                for (String word : new String[] {"lock", "fetch"}) {
                    result(put + word + place + signs[i] + " r6\nr0 = *(u64 *)(r10 - 8)\nexit", x & ~mask | made[i] & mask);
                    result(put + word + place + signs[i] + " r6\nr0 = r6\nexit", word.equals("lock") ? y : x & mask);
                }
            }
            result(put + "xchg" + place + "r6\nr0 = *(u64 *)(r10 - 8)\nexit", x & ~mask | y & mask);
            result(put + "xchg" + place + "r6\nr0 = r6\nexit", x & mask);
            for (long zeroth : new long[] {x, x ^ 1, x ^ 1L << 40, x ^ 1L << 31, 0, x & 0xFFFFFFFFL}) {
                boolean same = ((x ^ zeroth) & mask) == 0;
                String compare = put + "r0 = " + zeroth + " ll\ncmpxchg" + place + "r6\n";
                result(compare + "r0 = *(u64 *)(r10 - 8)\nexit", same ? x & ~mask | y & mask : x);
                result(compare + "exit", x & mask);
                result(compare + "r0 = r6\nexit", y);
            }
            begin();
        }
    }

    private static String trace(int n, int value) {
        StringBuilder text = new StringBuilder();
        for (int a = 8; a <= 64; a += 8) {
            text.append("*(u64 *)(r10 - ").append(a).append(") = ").append(value + a / 8).append("\n");
        }
        return text + "r1 = r10\nr1 += -" + n + "\nr2 = " + n + "\ncall 6\nexit\n";
    }

    /** "n bytes come to the TRACE (2000 at most, others go): n"; tear(). */
    private static void traceEnds() {
        begin();
        judged(1, trace(64, 10));
        judged(2, trace(17, 50));
        judged(3, trace(1, 90));
        for (int i = 0; i < 31; i++) {
            runs(1, 13, 64);
        }
        for (House h : both) {
            House.due("traces", h.house.traces(), 1984);
        }
        // 16 of 17 bytes fit, one goes
        runs(2, 13, 17);
        for (House h : both) {
            FilterHouse x = h.house;
            House.due("traces", x.traces(), 2000);
            House.due("byte 0: the eighth part's", x.trace(0), 18);
            House.due("byte 1", x.trace(1), 0);
            House.due("byte 1976", x.trace(1976), 11);
            House.due("byte 1984: at -17", x.trace(1984), 0);
            House.due("byte 1985: at -16", x.trace(1985), 52);
            House.due("byte 1993: at -8", x.trace(1993), 51);
            House.due("byte 1999: at -2", x.trace(1999), 0);
            for (int i : new int[] {-1, 2000, 2001, Integer.MIN_VALUE, Integer.MAX_VALUE}) {
                House.due("trace " + i, x.trace(i), -1);
            }
        }
        // full: none fits; what a helper answers is n all the same
        runs(3, 13, 1);
        runs(1, 13, 64);
        for (House h : both) {
            House.due("traces", h.house.traces(), 2000);
            House.due("byte 1985 stays", h.house.trace(1985), 52);
            House.due("tear", h.house.tear(), 2000);
            House.due("traces", h.house.traces(), 0);
            House.due("trace 0", h.house.trace(0), -1);
            House.due("tear again", h.house.tear(), 0);
        }
        // it is empty: there is room again
        runs(3, 13, 1);
        runs(2, 13, 17);
        for (House h : both) {
            House.due("traces", h.house.traces(), 18);
            House.due("byte 0", h.house.trace(0), 0);
            House.due("byte 2", h.house.trace(2), 52);
            House.due("byte 18", h.house.trace(18), -1);
        }
        // up to 1999, and the last one
        begin();
        judged(1, trace(64, 10));
        judged(2, trace(15, 50));
        judged(3, trace(1, 90));
        for (int i = 0; i < 31; i++) {
            runs(1, 13, 64);
        }
        runs(2, 13, 15);
        for (House h : both) {
            House.due("traces", h.house.traces(), 1999);
            House.due("trace 1999", h.house.trace(1999), -1);
        }
        runs(3, 13, 1);
        runs(3, 13, 1);
        for (House h : both) {
            House.due("traces", h.house.traces(), 2000);
            House.due("trace 1999", h.house.trace(1999), 0);
        }
    }

    /** "7: the next of the CHANCES: x becomes x 6364136223846793005 + 1442695040888963407 (64 bits, without sign), its highest 32 bits." */
    private static void chances() {
        begin();
        judged(0, "call 7\nexit");
        for (long x : new long[] {0, 1, -1, Long.MIN_VALUE, Long.MAX_VALUE, 0x123456789ABCDEFL}) {
            for (House h : both) {
                h.house.chances(x);
            }
            java.math.BigInteger big = java.math.BigInteger.valueOf(x);
            for (int i = 0; i < 5; i++) {
                big = big.multiply(java.math.BigInteger.valueOf(6364136223846793005L)).add(java.math.BigInteger.valueOf(1442695040888963407L)).mod(Known.TWO64);
                runs(0, 2, big.shiftRight(32).longValue());
            }
        }
    }

    /** "Each instruction is a STEP"; "A pair counts as one instruction"; "5: how many steps all runs made so far (this one's, with this one's call)". */
    private static void stepsCounted() {
        begin();
        judged(0, "r0 = 1 ll\nr1 = map 0\nexit");
        runs(0, 3, 1);
        judged(1, "call 5\nexit");
        runs(1, 2, 4);
        judged(2, "r6 = 0\nL: r6 += 1\nif r6 < 10 goto L\ncall f\ncall 5\nexit\nf: r0 = 0\nexit");
        runs(2, 1 + 20 + 1 + 2 + 1 + 1, 5 + 1 + 20 + 1 + 2 + 1);
        for (House h : both) {
            House.due("steps", h.house.steps(), 31);
            House.due("told LONGEST", h.house.told(3), 26);
            House.due("run that is refused", h.house.run(3, 0), -1);
            House.due("steps", h.house.steps(), 31);
        }
        runs(1, 2, 32);
        for (House h : both) {
            House.due("a run by the other way", h.house.run(1, 0) + h.house.run(1, 1), 4);
            House.due("steps", h.house.steps(), 37);
            House.due("result", h.house.result(), 36);
        }
        // a run has at most LONGEST steps: the greatest there is
        judged(3, "r6 = 0\nr0 = 0\nL: " + "r7 = 1\n".repeat(14) + "r6 += 1\nif r6 < 249 goto L\n" + "r7 = 2\n".repeat(13) + "exit");
        for (House h : both) {
            House.due("LONGEST", h.house.told(3), 4000);
        }
        runs(3, 4000, 0);
    }

    private static String tail(String index) {
        return "r9 = r1\nr2 = map 2\nr3 = " + index + "\ncall 12\nexit\n";
    }

    private static void link(int index, int slot) {
        for (House h : both) {
            House.due("link", h.house.link(2, index, slot), true);
        }
    }

    private static void tailsAre(int n) {
        for (House h : both) {
            House.due("tails", h.house.tails(), n);
        }
    }

    /** "at most 8 times in a run"; "index without sign"; "if there is one that is TAKEN". */
    private static void tailEnds() {
        begin();
        judged(1, "r0 = 77\nexit");
        // indices at their ends: none there, beyond, below, beyond 32 bits
        for (String index : new String[] {"0", "15", "16", "-1", "2147483647", "4294967296 ll", "18446744073709551615 ll", "9223372036854775808 ll", "-4294967296 ll"}) {
            result(tail(index), -1);
            tailsAre(0);
        }
        link(0, 1);
        link(15, 1);
        for (String index : new String[] {"0", "15"}) {
            result(tail(index), 77);
            tailsAre(1);
            runs(0, 4 + 2, 77);
        }
        for (String index : new String[] {"1", "14", "16", "-1", "4294967296 ll", "4294967311 ll", "18446744073709551615 ll"}) {
            result(tail(index), -1);
            tailsAre(0);
        }
        // a slot without a program, one that is not judged, not taken, changed since, taken
        link(3, 6);
        judged(0, tail("3"));
        runs(0, 5, -1);
        for (House h : both) {
            h.assemble(6, "r0 = 66\nexit");
        }
        runs(0, 5, -1);
        for (House h : both) {
            House.due("judge", h.house.judge(6), 0);
        }
        runs(0, 6, 66);
        for (House h : both) {
            h.assemble(6, "r0 = 66\nexit");
        }
        runs(0, 5, -1);
        tailsAre(0);
        for (House h : both) {
            House.due("judge", h.judge(6, "exit"), 3);
        }
        runs(0, 5, -1);
        for (House h : both) {
            House.due("judge", h.judge(6, "r0 = 67\nexit"), 0);
        }
        runs(0, 6, 67);
        tailsAre(1);
        link(3, -1);
        runs(0, 5, -1);
        // with itself: the eighth is made, the ninth is not; in each run anew
        begin();
        link(4, 0);
        judged(0, "r9 = r1\nr6 = *(u32 *)(r1 + 12)\nr6 += 1\n*(u32 *)(r1 + 12) = r6\nr2 = map 2\nr3 = 4\ncall 12\nexit\n");
        for (int turn = 1; turn <= 3; turn++) {
            runs(0, 9 * 7 + 1, -1);
            tailsAre(8);
            for (House h : both) {
                House.due("nine times the beginning", h.house.mark(), 9 * turn);
            }
        }
        // until the mark says that it is enough: 7, 8 and 9 times
        judged(0, "r6 = *(u32 *)(r1 + 12)\nif r6 == 0 goto E\nr6 -= 1\n*(u32 *)(r1 + 12) = r6\nr2 = map 2\nr3 = 4\ncall 12\nexit\nE: r0 = 5\nexit\n");
        for (int n : new int[] {0, 1, 7, 8, 9, 20}) {
            for (House h : both) {
                h.house.given(n, 0);
            }
            runs(0, n <= 8 ? 7 * n + 4 : 7 * 9 + 1, n <= 8 ? 5 : -1);
            tailsAre(Math.min(n, 8));
        }
        for (House h : both) {
            House.due("a run that is refused", h.house.run(0, 5), -1);
        }
        tailsAre(8);
        // between two programs, the ninth answers -1 in the second one
        judged(2, "r2 = map 2\nr3 = 6\ncall 12\nr0 = 222\nexit\n");
        judged(3, "r2 = map 2\nr3 = 5\ncall 12\nr0 = 333\nexit\n");
        link(5, 2);
        link(6, 3);
        runs(2, 9 * 3 + 2, 222);
        runs(3, 9 * 3 + 2, 333);
        tailsAre(8);
    }

    /** "begins at its word 0, with r1, its stack, nothing else"; what was done stays. */
    private static void tailState() {
        begin();
        packet(counted(10));
        judged(1, "*(u64 *)(r10 - 128) = 5\nr0 = *(u32 *)(r1 + 8)\nr0 <<= 8\nr2 = *(u32 *)(r1 + 12)\nr0 |= r2\nr0 <<= 8\nr2 = *(u32 *)(r1 + 16)\nr0 |= r2\nexit\n");
        link(0, 1);
        for (House h : both) {
            h.house.given(1, 9);
        }
        judged(0, "r9 = r1\n*(u32 *)(r1 + 12) = 7\nr2 = 4\ncall 44\nr1 = r9\nr2 = map 2\nr3 = 0\ncall 12\nexit\n");
        runs(0, 8 + 9, 6 << 16 | 7 << 8 | 9);
        for (House h : both) {
            House.due("length", h.house.length(), 6);
            House.due("mark", h.house.mark(), 7);
        }
        // behind -1 the program goes on with what it had
        judged(0, "r9 = r1\nr6 = 3\n*(u64 *)(r10 - 8) = 4\nr2 = map 2\nr3 = 9\ncall 12\nr7 = *(u64 *)(r10 - 8)\nr0 += r6\nr0 += r7\nexit\n");
        runs(0, 10, 6);
        // a function of the program that it goes on with
        judged(1, "r6 = 1\ncall f\nr0 += r6\nexit\nf: r6 = 5\nr0 = 10\nexit\n");
        judged(0, tail("0"));
        runs(0, 4 + 7, 11);
    }

    /** "26: n bytes of the packet from at on (both without sign) come to the stack: 0; if they are not all there n 0s come: -14." */
    private static void packetBytes() {
        begin();
        for (int size : new int[] {0, 1, 127, 128, 256}) {
            packet(counted(size));
            for (int n : new int[] {1, 2, 127, 128}) {
                for (String at : new String[] {"0", "1", "" + (size - n), "" + (size - n + 1), "" + size, "" + (size + 1), "-1", "4294967296 ll", "9223372036854775807 ll",
                    "-9223372036854775808 ll", "-" + n}) {
                    long from = Long.parseLong(at.replace(" ll", ""));
                    boolean there = from >= 0 && from + n > 0 && from + n <= size;
                    readBytes(from, at.contains("ll") ? at : from + "", n, there);
                }
            }
        }
    }

    private static void readBytes(long from, String at, int n, boolean there) {
        String read = "r2 = " + at + "\nr3 = r10\nr3 += -" + n + "\nr4 = " + n + "\ncall 26\n";
        String first = "r6 = *(u8 *)(r10 - " + n + ")\n";
        String last = "r7 = *(u8 *)(r10 - 1)\n";
        judged(0, "*(u64 *)(r10 - " + (n + 7) / 8 * 8 + ") = -1\n*(u64 *)(r10 - 8) = -1\n" + read + first + last + "r0 <<= 16\nr6 <<= 8\nr0 |= r6\nr0 |= r7\nexit\n");
        long due = there ? (from + 1 & 255) << 8 | from + n & 255 : -14L << 16;
        for (int way = 0; way < 2; way++) {
            both[way].house.run(0, way);
            House.due("26 of " + n + " from " + at + " by way " + way, both[way].house.result(), due);
        }
    }

    /** "44: the packet loses by bytes at its beginning, or gets -by bytes of 0 there: 0; -22, when it would have more than 256, or it has fewer than by." */
    private static void packetBeginning() {
        for (int size : new int[] {0, 1, 10, 255, 256}) {
            for (String by : new String[] {"0", "1", "-1", "" + size, "" + (size + 1), "" + (size - 1), "" + (size - 256), "" + (size - 257), "-256", "-257", "256", "257",
                "2147483647", "-2147483648", "4294967296 ll", "4294967297 ll", "0x7FFFFFFF00000000 ll", "0x80000000 ll", "0xFFFFFFFF ll"}) {
                begin();
                packet(counted(size));
                // the lowest 32 bits, with sign
                int number = (int) Long.decode(by.replace(" ll", "")).longValue();
                boolean good = number <= size && (long) size - number <= 256;
                judged(0, "r6 = r1\nr2 = " + by + "\ncall 44\nr7 = *(u32 *)(r6 + 8)\nr0 <<= 16\nr0 |= r7\nexit\n");
                int left = good ? size - number : size;
                runs(0, 7, (good ? 0 : -22L << 16) | left);
                byte[] due = new byte[left];
                for (int i = 0; i < left; i++) {
                    int from = good ? i + number : i;
                    due[i] = (byte) (from < 0 ? 0 : from + 1);
                }
                packetIs(due);
            }
        }
        // the new bytes are 0 also where there were others; what went is gone
        begin();
        packet(counted(8));
        judged(0, "r6 = r1\nr2 = 8\ncall 44\nr1 = r6\nr2 = -8\ncall 44\nr1 = r6\nr2 = 3\ncall 44\nr0 = *(u32 *)(r6 + 8)\nexit\n");
        runs(0, 11, 5);
        packetIs(new byte[5]);
        // END and the begin are told anew
        packet(counted(16));
        judged(0, "r6 = r1\nr2 = 6\ncall 44\nr1 = r6\n" + within(10, "r0 = *(u8 *)(r2 + 9)\nr4 = *(u8 *)(r2 + 0)\nr0 <<= 8\nr0 |= r4\n"));
        runs(0, 4 + 6 + 5, 16 << 8 | 7);
        runs(0, 4 + 7, 0);
    }

    /** "NONE: it is not taken, another way"; what is refused changes nothing. */
    private static void refused() {
        begin();
        packet(counted(3));
        judged(0, "r2 = 1\ncall 44\nr0 = 9\nexit");
        runs(0, 4, 9);
        for (House h : both) {
            FilterHouse x = h.house;
            for (int way : new int[] {-1, 2, 3, Integer.MIN_VALUE, Integer.MAX_VALUE}) {
                House.due("way " + way, x.run(0, way), -1);
            }
            for (int slot : new int[] {-1, 1, 7, 8, Integer.MIN_VALUE, Integer.MAX_VALUE}) {
                House.due("slot " + slot, x.run(slot, 0), -1);
                House.due("slot " + slot, x.run(slot, 1), -1);
            }
            h.assemble(1, "r0 = 1\nexit");
            House.due("what was not judged", x.run(1, 0), -1);
            h.judge(1, "exit");
            House.due("what has a fault", x.run(1, 1), -1);
            House.due("result stays", x.result(), 9);
            House.due("steps stay", x.steps(), 4);
            House.due("length stays", x.length(), 2);
            House.due("tails stay", x.tails(), 0);
        }
        runs(0, 4, 9);
        for (House h : both) {
            House.due("length", h.house.length(), 1);
            House.due("its byte", h.house.packetByte(0), 3);
        }
    }
}
