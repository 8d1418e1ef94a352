/** Part 1: what ALU instructions and jumps do to numbers at the edges, by both ways; the sides come by the packet. */
public final class AluTest {
    private static final String SIDES = "r2 = *(u32 *)(r1 + 0)\nr3 = *(u32 *)(r1 + 4)\nr4 = r2\nr4 += 16\nif r4 <= r3 goto +2\nr0 = 0\nexit\n"
            + "r6 = *(u64 *)(r2 + 0)\nr7 = *(u64 *)(r2 + 8)\n";

    private static final long[] EDGES = {0, 1, -1, 2, -2, 7, 31, 32, 33, 63, 64, 65, 0x7FFFFFFFL, 0x80000000L, 0xFFFFFFFFL, 0x100000000L, 0x100000001L,
        -0x80000000L, -0x80000001L, Long.MAX_VALUE, Long.MIN_VALUE, Long.MIN_VALUE + 1, 0x0123456789ABCDEFL, 0xFEDCBA9876543210L, 0xFFFFFFFF00000000L,
        0x8000000080000000L, 0x5555555580000001L};
    private static final int[] IMMS = {0, 1, -1, 2, 7, 31, 32, 63, 0x40000000, 0x7FFFFFFF, 0x80000000, 0x80000001, 0x12345678};

    private static final String[] SIGNS = {"+=", "-=", "*=", "/=", "|=", "&=", "<<=", ">>=", "%=", "^=", "=", "s/=", "s%=", "s>>="};
    private static final String[] COMPARISONS = {"==", "!=", ">", ">=", "<", "<=", "&", "s>", "s>=", "s<", "s<="};

    private static House house;
    private static int calls;

    public static void main(String[] args) {
        for (String sign : SIGNS) {
            byRegister(sign, "r6 " + sign + " r7\nr0 = r6", true);
            byRegister(sign, "w6 " + sign + " w7\nr0 = r6", false);
            for (int imm : IMMS) {
                byImm(sign, imm);
            }
        }
        for (String comparison : COMPARISONS) {
            jumps(comparison);
        }
        single();
        minusBehindOthers();
        House.end();
    }

    private static void begin(String text) {
        house = new House();
        House.due("judge of " + text, house.judge(0, SIDES + text + "\nexit"), 0);
        calls = 50;
    }

    private static void runs(String text, long x, long y, long want) {
        if (house == null || calls > 480) {
            begin(text);
        }
        calls += 9;
        byte[] bytes = new byte[16];
        for (int i = 0; i < 8; i++) {
            bytes[i] = (byte) (x >> 8 * i);
            bytes[8 + i] = (byte) (y >> 8 * i);
        }
        house.tape(bytes).house.packet();
        int steps = house.house.run(0, 0);
        House.due("by words: <" + text + "> of " + x + ", " + y, house.house.result(), want);
        House.due("steps by the plain machine: <" + text + ">", house.house.run(0, 1), steps);
        House.due("by the plain machine: <" + text + "> of " + x + ", " + y, house.house.result(), want);
    }

    private static void byRegister(String sign, String text, boolean wide) {
        house = null;
        for (long x : EDGES) {
            for (long y : EDGES) {
                runs(text, x, y, wide ? wide(sign, x, y) : half(sign, (int) x, (int) y) & 0xFFFFFFFFL);
            }
        }
    }

    private static void byImm(String sign, int imm) {
        boolean shift = sign.contains("<<") || sign.contains(">>");
        boolean divides = sign.contains("/") || sign.contains("%");
        if (divides && imm == 0 || shift && (imm < 0 || imm > 63)) {
            return;
        }
        house = null;
        for (long x : EDGES) {
            runs("r6 " + sign + " " + imm + "\nr0 = r6", x, 5, wide(sign, x, imm));
        }
        if (shift && imm > 31) {
            return;
        }
        house = null;
        for (long x : EDGES) {
            runs("w6 " + sign + " " + imm + "\nr0 = r6", x, 5, half(sign, (int) x, imm) & 0xFFFFFFFFL);
        }
    }

    private static long wide(String sign, long x, long y) {
        switch (sign) {
            case "+=":
                return x + y;
            case "-=":
                return x - y;
            case "*=":
                return x * y;
            case "/=":
                return y == 0 ? 0 : Long.divideUnsigned(x, y);
            case "|=":
                return x | y;
            case "&=":
                return x & y;
            case "<<=":
                return x << (y & 63);
            case ">>=":
                return x >>> (y & 63);
            case "%=":
                return y == 0 ? x : Long.remainderUnsigned(x, y);
            case "^=":
                return x ^ y;
            case "=":
                return y;
            case "s/=":
                return y == 0 ? 0 : y == -1 ? -x : x / y;
            case "s%=":
                return y == 0 ? x : y == -1 ? 0 : x % y;
            default:
                return x >> (y & 63);
        }
    }

    private static int half(String sign, int x, int y) {
        switch (sign) {
            case "/=":
                return y == 0 ? 0 : Integer.divideUnsigned(x, y);
            case "%=":
                return y == 0 ? x : Integer.remainderUnsigned(x, y);
            case "<<=":
                return x << (y & 31);
            case ">>=":
                return x >>> (y & 31);
            case "s>>=":
                return x >> (y & 31);
            case "s/=":
                return y == 0 ? 0 : y == -1 ? -x : x / y;
            case "s%=":
                return y == 0 ? x : y == -1 ? 0 : x % y;
            default:
                return (int) wide(sign, x, y);
        }
    }

    private static boolean so(String comparison, long x, long y) {
        switch (comparison) {
            case "==":
                return x == y;
            case "!=":
                return x != y;
            case ">":
                return Long.compareUnsigned(x, y) > 0;
            case ">=":
                return Long.compareUnsigned(x, y) >= 0;
            case "<":
                return Long.compareUnsigned(x, y) < 0;
            case "<=":
                return Long.compareUnsigned(x, y) <= 0;
            case "&":
                return (x & y) != 0;
            case "s>":
                return x > y;
            case "s>=":
                return x >= y;
            case "s<":
                return x < y;
            default:
                return x <= y;
        }
    }

    /** Of 32 bits without sign, but the s ones. */
    private static long cut(String comparison, long x) {
        return comparison.startsWith("s") ? (int) x : x & 0xFFFFFFFFL;
    }

    private static void jumps(String comparison) {
        String end = " goto +2\nr0 = 5\nexit\nr0 = 6";
        house = null;
        for (long x : EDGES) {
            for (long y : EDGES) {
                runs("if r6 " + comparison + " r7" + end, x, y, so(comparison, x, y) ? 6 : 5);
            }
        }
        house = null;
        for (long x : EDGES) {
            for (long y : EDGES) {
                runs("if w6 " + comparison + " w7" + end, x, y, so(comparison, cut(comparison, x), cut(comparison, y)) ? 6 : 5);
            }
        }
        for (int imm : IMMS) {
            house = null;
            for (long x : EDGES) {
                runs("if r6 " + comparison + " " + imm + end, x, 5, so(comparison, x, imm) ? 6 : 5);
            }
            house = null;
            for (long x : EDGES) {
                runs("if w6 " + comparison + " " + imm + end, x, 5, so(comparison, cut(comparison, x), cut(comparison, imm)) ? 6 : 5);
            }
        }
    }

    /** Minus, signs drawn up, bytes turned round, numbers of words. */
    private static void single() {
        String[] texts = {"r0 = 0\nr0 = r6\nr0 = - r0", "r0 = r6\nw0 = - w0", "r0 = (s8) r6", "r0 = (s16) r6", "r0 = (s32) r6", "w0 = (s8) w6", "w0 = (s16) w6",
            "r0 = r6\nr0 = le16 r0", "r0 = r6\nr0 = le32 r0", "r0 = r6\nr0 = le64 r0", "r0 = r6\nr0 = be16 r0", "r0 = r6\nr0 = be32 r0", "r0 = r6\nr0 = be64 r0",
            "r0 = r6\nr0 = bswap16 r0", "r0 = r6\nr0 = bswap32 r0", "r0 = r6\nr0 = bswap64 r0"};
        for (int i = 0; i < texts.length; i++) {
            house = null;
            for (long x : EDGES) {
                runs(texts[i], x, 0, single(i, x));
            }
        }
        for (int imm : IMMS) {
            house = null;
            runs("r0 = " + imm, 0, 0, imm);
            house = null;
            runs("w0 = " + imm, 0, 0, imm & 0xFFFFFFFFL);
        }
        for (long c : EDGES) {
            house = null;
            runs("r0 = " + c + " ll", 0, 0, c);
        }
    }

    private static long single(int which, long x) {
        switch (which) {
            case 0:
                return -x;
            case 1:
                return -(int) x & 0xFFFFFFFFL;
            case 2:
                return (byte) x;
            case 3:
                return (short) x;
            case 4:
                return (int) x;
            case 5:
                return (byte) x & 0xFFFFFFFFL;
            case 6:
                return (short) x & 0xFFFFFFFFL;
            case 7:
                return x & 0xFFFF;
            case 8:
                return x & 0xFFFFFFFFL;
            case 9:
                return x;
            case 10:
            case 13:
                return Short.reverseBytes((short) x) & 0xFFFF;
            case 11:
            case 14:
                return Integer.reverseBytes((int) x) & 0xFFFFFFFFL;
            default:
                return Long.reverseBytes(x);
        }
    }

    /** Nothing is left of the instructions ahead where the plain machine keeps what programs do not see. */
    private static void minusBehindOthers() {
        String[] ahead = {"*(u64 *)(r10 - 8) = 77", "w7 <<= w6", "w7 s/= w6", "if w7 > w6 goto +0", "r7 = le16 r7", "*(u64 *)(r10 - 8) = r7\nxchg *(u64 *)(r10 - 8) r7"};
        String[] texts = {"r0 = r6\nr0 = - r0", "r0 = r6\nw0 = - w0", "r0 = r6\nw0 >>= 4", "r0 = r6\nr0 += 9"};
        for (String before : ahead) {
            for (int i = 0; i < texts.length; i++) {
                house = null;
                for (long x : EDGES) {
                    long want = i == 0 ? -x : i == 1 ? -(int) x & 0xFFFFFFFFL : i == 2 ? (int) x >>> 4 & 0xFFFFFFFFL : x + 9;
                    runs(before + "\n" + texts[i], x, 0x1122334455667788L, want);
                }
            }
        }
    }
}
