/** What the judge knows of a NUMBER (part 5): what runs can make is always in it, and samples to the bit. */
public final class NumTest {
    private static final int[] CODES = {0x00, 0x10, 0x20, 0x30, 0x40, 0x50, 0x60, 0x70, 0x90, 0xA0, 0xB0, 0xC0};

    public static void main(String[] args) {
        samples();
        jumps();
        sound(7);
        House.end();
    }

    private static final String SOME = "r2 = *(u32 *)(r1 + 8)\n";

    private static final long F = 0xFFFFFFFFL;

    /** What is known of r0 behind a program that ends with these lines: V M U1 U2 S1 S2. */
    private static void known(String text, long... want) {
        House house = new House();
        House.due("judge of <" + text + ">", house.judge(0, text + "\nr0 = r0\nexit"), 0);
        int at = house.house.words(0) - 1;
        House.due("kind behind <" + text + ">", house.house.known(at, 0, 0), 1);
        for (int i = 0; i < 6; i++) {
            House.due("known " + (i + 1) + " behind <" + text + ">", house.house.known(at, 0, i + 1), want[i]);
        }
    }

    private static void number(String text, long c) {
        known(text, c, 0, c, c, c, c);
    }

    private static void any(String text) {
        known(text, 0, -1, 0, -1, Long.MIN_VALUE, Long.MAX_VALUE);
    }

    private static void samples() {
        known(SOME + "r0 = r2", 0, F, 0, F, 0, F);
        number("r0 = -5", -5);
        number("w0 = -5", 0xFFFFFFFBL);
        known(SOME + "r2 &= 12\nw0 = w2", 0, 12, 0, 12, 0, 12);
        known(SOME + "r2 &= 12\nr2 |= 3\nw0 = w2", 3, 12, 3, 15, 3, 15);
        known(SOME + "r0 = r2\nr0 <<= 1\nr0 *= 3", 0, -2, 0, -2, Long.MIN_VALUE, Long.MAX_VALUE - 1);
        known(SOME + "r0 = r2\nr3 = r2\nr0 *= r3", 0, -1, 0, F * F, Long.MIN_VALUE, Long.MAX_VALUE);
        number(SOME + "r0 = r2\nr0 <<= 32\nr3 = r0\nr0 *= r3", 0);
        known(SOME + "r0 = (s8) r2\nr0 += 1", 0, -1, 0, -1, -127, 128);
        known(SOME + "r0 = (s8) r2\nr0 -= 1", 0, -1, 0, -1, -129, 126);
        known(SOME + "r0 = (s8) r2\nr3 = 0x7FFFFFFFFFFFFFFF ll\nr0 += r3", 0, -1, 0, -1, Long.MIN_VALUE, Long.MAX_VALUE);
        known(SOME + "r0 = (s8) r2\nr3 = 0x7FFFFFFFFFFFFFFF ll\nr0 -= r3", 0, -1, 0, -1, Long.MIN_VALUE, Long.MAX_VALUE);
        number("r0 = 7\nr0 += -9", -2);
        number("w0 = 7\nw0 -= 9", 0xFFFFFFFEL);
        known(SOME + "r0 = r2\nr0 &= 7\nr0 += 3", 0, 15, 3, 10, 3, 10);
        known(SOME + "r0 = r2\nr0 &= 7\nr0 <<= 4\nr0 += 3", 3, 0x70, 3, 0x73, 3, 0x73);
        known(SOME + "r0 = r2\nr0 &= 3\nr0 -= 4", -4, 3, -4, -1, -4, -1);
        known(SOME + "r0 = r2\nr0 &= 3\nr0 -= 1", 0, -1, 0, -1, -1, 2);
        known(SOME + "r0 = r2\nr0 &= 3\nr0 = - r0", 0, -1, 0, -1, -3, 0);
        known(SOME + "r0 = r2\nr0 &= 6\nr0 *= 12", 0, 0x78, 0, 72, 0, 72);
        known(SOME + "r0 = r2\nr0 *= 0", 0, 0, 0, 0, 0, 0);
        known(SOME + "r0 = r2\nr0 /= 1000", 0, 0x7FFFFF, 0, 4294967, 0, 4294967);
        known(SOME + "r0 = r2\nr3 = r2\nr0 /= r3", 0, F, 0, F, 0, F);
        known(SOME + "r0 = r2\nr0 %= 10", 0, 15, 0, 9, 0, 9);
        known(SOME + "r0 = r2\nr0 &= 5\nr0 %= 10", 0, 7, 0, 5, 0, 5);
        known(SOME + "r0 = r2\nr0 |= 256", 256, F & ~256, 256, F, 256, F);
        known(SOME + "r0 = r2\nr0 &= 255\nr0 ^= 3", 0, 255, 0, 255, 0, 255);
        known(SOME + "r0 = r2\nr0 <<= 33", 0, -1L << 33, 0, -1L << 33, Long.MIN_VALUE, Long.MAX_VALUE & -1L << 33);
        known(SOME + "r0 = r2\nr0 >>= 8", 0, 0xFFFFFF, 0, 0xFFFFFF, 0, 0xFFFFFF);
        known(SOME + "r0 = r2\nr0 <<= 32\nr0 s>>= 40", 0, -1, 0, -1, -0x800000, 0x7FFFFF);
        known(SOME + "r0 = -9\nr0 s>>= r2", -16, 15, -9, -1, -9, -1);
        known(SOME + "r0 = 9\nr0 s>>= r2", 0, 15, 0, 9, 0, 9);
        known(SOME + "r0 = 9\nr0 >>= r2", 0, 15, 0, 9, 0, 9);
        any(SOME + "r0 = 9\nr0 <<= r2");
        known(SOME + "w0 = 9\nw0 <<= w2", 0, F, 0, F, 0, F);
        any(SOME + "r0 = r2\nr0 s/= 3");
        known(SOME + "r0 = r2\nw0 s/= 3", 0, F, 0, F, 0, F);
        known(SOME + "r0 = r2\nw0 s>>= 3", 0, F, 0, F, 0, F);
        number("r0 = -7\nr0 s/= 2", -3);
        number("r0 = -7\nr0 s%= 2", -1);
        number("w0 = -7\nw0 s/= 2", 0xFFFFFFFDL);
        number("w0 = -8\nw0 s>>= 1", 0xFFFFFFFCL);
        number("r0 = -8\nr0 s>>= 1", -4);
        number("r0 = 1\nr0 <<= 63", Long.MIN_VALUE);
        number("r0 = 5\nr3 = 0\nr0 /= r3", 0);
        number("r0 = 5\nr3 = 0\nr0 %= r3", 5);
        number("r0 = 5\nr3 = 0\nr0 s%= r3", 5);
        number("r0 = -9223372036854775808 ll\nr0 s/= -1", Long.MIN_VALUE);
        known(SOME + "r0 = (s8) r2", 0, -1, 0, -1, -128, 127);
        known(SOME + "w0 = (s8) w2", 0, F, 0, F, 0, F);
        number("r3 = 200\nr0 = (s8) r3", -56);
        number("r3 = 200\nw0 = (s8) w3", 0xFFFFFFC8L);
        known(SOME + "r0 = r2\nr0 = be16 r0", 0, 0xFFFF, 0, 0xFFFF, 0, 0xFFFF);
        any(SOME + "r0 = r2\nr0 = bswap64 r0");
        number("r0 = 258\nr0 = be16 r0", 0x0201);
        number("r0 = 66051\nr0 = le16 r0", 0x0203);
        number("r0 = 1\nr0 = bswap64 r0", 1L << 56);
        known("call 5\nr0 >>= 1", 0, Long.MAX_VALUE, 0, Long.MAX_VALUE, 0, Long.MAX_VALUE);
        known("call 5\nw0 = w0", 0, F, 0, F, 0, F);
        known("call 7", 0, F, 0, F, 0, F);
    }

    private static void jumps() {
        String end = " goto +2\nr0 = 1\nexit\nr0 = r2";
        String not = " goto +1\ngoto +2\nr0 = 1\nexit\nr0 = r2";
        known(SOME + "if r2 > 10" + end, 0, F, 11, F, 11, F);
        known(SOME + "if r2 > 10" + not, 0, 15, 0, 10, 0, 10);
        known(SOME + "if r2 >= 10" + end, 0, F, 10, F, 10, F);
        known(SOME + "if r2 < 10" + end, 0, 15, 0, 9, 0, 9);
        known(SOME + "if r2 <= 10" + end, 0, 15, 0, 10, 0, 10);
        known(SOME + "if r2 s> 10" + end, 0, F, 11, F, 11, F);
        known(SOME + "if r2 s< 10" + end, 0, 15, 0, 9, 0, 9);
        known(SOME + "if w2 < 10" + end, 0, 15, 0, 9, 0, 9);
        known(SOME + "if w2 s< 10" + end, 0, F, 0, F, 0, F);
        known(SOME + "r2 <<= 1\nif w2 < 10" + end, 0, F << 1, 0, F << 1, 0, F << 1);
        known(SOME + "r2 <<= 1\nr3 = 10\nif w3 > w2" + end, 0, F << 1, 0, F << 1, 0, F << 1);
        known(SOME + "r3 = r2\nr3 <<= 1\nr3 &= 16\nr3 |= 3\nif w2 < w3" + end, 0, 31, 0, 18, 0, 18);
        known(SOME + "if w2 > -2" + end, F, 0, F, F, F, F);
        known("call 5\nr2 = r0\nif w2 < 10" + end, 0, -1, 0, -1, Long.MIN_VALUE, Long.MAX_VALUE);
        known(SOME + "if r2 == 10" + end, 10, 0, 10, 10, 10, 10);
        known(SOME + "if r2 != 10" + not, 10, 0, 10, 10, 10, 10);
        known(SOME + "if r2 != 0" + end, 0, F, 1, F, 1, F);
        known(SOME + "r2 &= 7\nif r2 != 7" + end, 0, 7, 0, 6, 0, 6);
        known(SOME + "r2 = (s8) r2\nif r2 != 127" + end, 0, -1, 0, -1, -128, 126);
        known(SOME + "r2 = (s8) r2\nif r2 != -128" + end, 0, -1, 0, -1, -127, 127);
        known(SOME + "if r2 & 8" + end, 8, F & ~8, 8, F, 8, F);
        known(SOME + "if r2 & 12" + end, 0, F, 0, F, 0, F);
        known(SOME + "if r2 & 12" + not, 0, F & ~12, 0, F & ~12, 0, F & ~12);
        known("call 5\nr2 = r0\nif r2 s> 5" + end, 0, Long.MAX_VALUE, 6, Long.MAX_VALUE, 6, Long.MAX_VALUE);
        known("call 5\nr2 = r0\nif r2 s< 0" + end, Long.MIN_VALUE, Long.MAX_VALUE, Long.MIN_VALUE, -1, Long.MIN_VALUE, -1);
        known(SOME + "r3 = r2\nr3 &= 7\nif r2 < r3" + end, 0, 7, 0, 6, 0, 6);
        known(SOME + "r3 = r2\nr2 &= 7\nif r3 < r2 goto +2\nr0 = 1\nexit\nr0 = r3", 0, 7, 0, 6, 0, 6);
        known(SOME + "if r2 > r2 goto +0\nr0 = r2", 0, F, 0, F, 0, F);
        // decided: just one way is gone
        int[] gone = {gone("r2 = 5\nif r2 > 4"), gone("r2 = 5\nif r2 > 5"), gone(SOME + "r2 &= 3\nif r2 > 3"), gone(SOME + "r2 &= 3\nif r2 >= 3"),
            gone(SOME + "r2 |= 1\nif r2 == 6"), gone(SOME + "r2 &= 6\nif r2 & 1"), gone(SOME + "r2 |= 1\nif r2 & 1"),
            gone(SOME + "if r2 s>= 0"), gone("r2 = -1\nif w2 s< 0"), gone(SOME + "if w2 s>= -2147483648"), gone("call 5\nr2 = r0\nif w2 <= -1"),
            gone("call 5\nr2 = r0\nr3 = 5\nif r2 <= 9 goto +1\nif r2 == r3"), gone("call 5\nr2 = r0\nr3 = 5\nif r2 <= 9 goto +1\nif r3 == r2"),
            gone("call 5\nr2 = r0\nr3 = 5\nif r2 s> 4 goto +2\nif r2 s< -3 goto +1\nif r2 == r3"),
            gone("call 5\nr2 = r0\nr3 = 5\nif r2 s> 4 goto +2\nif r2 s< -3 goto +1\nif r3 == r2"),
            gone(SOME + "r2 &= 47\nif r2 <= 15 goto +1\nif r2 < 32")};
        int[] want = {6, 4, 5, 9, 5, 5, 7, 6, 6, 8, 7, 9, 9, 12, 12, 8};
        for (int i = 0; i < gone.length; i++) {
            House.due("gone " + i, gone[i], want[i]);
        }
    }

    private static int gone(String text) {
        House house = new House();
        house.judge(0, text + " goto +2\nr0 = 0\nexit\nr0 = 0\nr0 = 0\nr0 = 0\nexit");
        return house.house.told(1);
    }

    private static FilterHouse.Num some(Dice dice, long[] holds) {
        FilterHouse.Num x = new FilterHouse.Num();
        long a = dice.number();
        if (dice.odds(1, 4)) {
            x.setNumber(a);
            for (int i = 0; i < holds.length; i++) {
                holds[i] = a;
            }
            return x;
        }
        // all that is the same of some numbers, or a little less
        for (int i = 0; i < holds.length; i++) {
            holds[i] = dice.odds(1, 2) ? a + dice.below(9) : dice.odds(1, 2) ? dice.number() : a & dice.bits();
        }
        x.setAny();
        long and = -1;
        long or = 0;
        for (long h : holds) {
            and &= h;
            or |= h;
        }
        long hide = dice.odds(1, 2) ? dice.bits() & dice.bits() : dice.of(0, -1);
        x.m = (and ^ or) | hide;
        x.v = and & ~x.m;
        if (dice.odds(2, 3)) {
            x.u1 = -1;
            x.u2 = 0;
            for (long h : holds) {
                x.u1 = Long.compareUnsigned(h, x.u1) < 0 ? h : x.u1;
                x.u2 = Long.compareUnsigned(h, x.u2) > 0 ? h : x.u2;
            }
        }
        if (dice.odds(2, 3)) {
            x.s1 = Long.MAX_VALUE;
            x.s2 = Long.MIN_VALUE;
            for (long h : holds) {
                x.s1 = Math.min(h, x.s1);
                x.s2 = Math.max(h, x.s2);
            }
        }
        House.due("tidy", x.tidy(), true);
        return x;
    }

    private static boolean holds(FilterHouse.Num x, long c) {
        return ((c ^ x.v) & ~x.m) == 0 && Long.compareUnsigned(x.u1, c) <= 0 && Long.compareUnsigned(c, x.u2) <= 0 && x.s1 <= c && c <= x.s2
                && (x.v & x.m) == 0;
    }

    private static void sound(long seed) {
        Dice dice = new Dice(seed);
        FilterHouse.Num z = new FilterHouse.Num();
        long[] a = new long[6];
        long[] b = new long[6];
        for (int turn = 0; turn < 60000; turn++) {
            FilterHouse.Num x = some(dice, a);
            FilterHouse.Num y = some(dice, b);
            check("x", x, a);
            z.setCut(x);
            for (long c : a) {
                House.due("CUT of " + c, holds(z, c & 0xFFFFFFFFL), true);
            }
            int code = CODES[dice.below(CODES.length)];
            int off = code == 0x30 || code == 0x90 ? dice.below(2) : code == 0xB0 ? dice.of(8, 16, 32) : 0;
            int op = code | 15;
            if (!z.makeTold(op, off, x, y)) {
                z.combine(op, off, x, y);
            }
            House.due("tidy of " + Integer.toHexString(code), z.tidy(), true);
            for (long c : a) {
                for (long d : b) {
                    House.due(c + " by " + Integer.toHexString(code) + " " + off + " with " + d, holds(z, concrete(code, off, c, d)), true);
                }
            }
        }
    }

    private static void check(String name, FilterHouse.Num x, long[] some) {
        for (long c : some) {
            House.due(name + " holds " + c, holds(x, c), true);
        }
    }

    private static long concrete(int code, int off, long c, long d) {
        switch (code) {
            case 0x00:
                return c + d;
            case 0x10:
                return c - d;
            case 0x20:
                return c * d;
            case 0x30:
                return d == 0 ? 0 : off == 1 ? c / d : Long.divideUnsigned(c, d);
            case 0x40:
                return c | d;
            case 0x50:
                return c & d;
            case 0x60:
                return c << d;
            case 0x70:
                return c >>> d;
            case 0x90:
                return d == 0 ? c : off == 1 ? c % d : Long.remainderUnsigned(c, d);
            case 0xA0:
                return c ^ d;
            case 0xB0:
                return off == 8 ? (byte) d : off == 16 ? (short) d : (int) d;
            default:
                return c >> d;
        }
    }
}
