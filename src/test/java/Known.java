import java.math.BigInteger;

/** A NUMBER as part 5 tells it, written once more for tests, word by word and with numbers that do not run over. */
final class Known {
    static final BigInteger TWO64 = BigInteger.ONE.shiftLeft(64);
    private static final long F = 0xFFFFFFFFL;
    private static final BigInteger LEAST = BigInteger.valueOf(Long.MIN_VALUE);
    private static final BigInteger MOST = BigInteger.valueOf(Long.MAX_VALUE);

    long v;
    long m;
    BigInteger u1;
    BigInteger u2;
    BigInteger s1;
    BigInteger s2;
    /** What the latest TIDY said. */
    boolean nothing = false;

    static BigInteger plain(long x) {
        return BigInteger.valueOf(x).mod(TWO64);
    }

    private static BigInteger signed(BigInteger u) {
        return BigInteger.valueOf(u.longValue());
    }

    static Known number(long c) {
        Known k = new Known();
        k.v = c;
        k.m = 0;
        k.u1 = plain(c);
        k.u2 = plain(c);
        k.s1 = BigInteger.valueOf(c);
        k.s2 = BigInteger.valueOf(c);
        return k;
    }

    static Known any() {
        Known k = new Known();
        k.v = 0;
        k.m = -1;
        k.wholeU();
        k.wholeS();
        return k;
    }

    static Known wide(int n) {
        Known k = any();
        if (n < 8) {
            k.m = (1L << 8 * n) - 1;
            k.u2 = plain(k.m);
            k.s1 = BigInteger.ZERO;
            k.s2 = k.u2;
        }
        return k;
    }

    static Known signsOf(int bits) {
        Known k = any();
        k.s1 = BigInteger.ONE.shiftLeft(bits - 1).negate();
        k.s2 = BigInteger.ONE.shiftLeft(bits - 1).subtract(BigInteger.ONE);
        return k;
    }

    Known copy() {
        Known k = new Known();
        k.v = v;
        k.m = m;
        k.u1 = u1;
        k.u2 = u2;
        k.s1 = s1;
        k.s2 = s2;
        return k;
    }

    private void wholeU() {
        u1 = BigInteger.ZERO;
        u2 = TWO64.subtract(BigInteger.ONE);
    }

    private void wholeS() {
        s1 = LEAST;
        s2 = MOST;
    }

    boolean constant() {
        return m == 0;
    }

    long field(int what) {
        switch (what) {
            case 1:
                return v;
            case 2:
                return m;
            case 3:
                return u1.longValue();
            case 4:
                return u2.longValue();
            case 5:
                return s1.longValue();
            default:
                return s2.longValue();
        }
    }

    /** "(a) U1 is at least V, U2 at most V | M; S1 at least V with M's highest bit, S2 at most V with M's others." */
    private void stepA() {
        u1 = u1.max(plain(v));
        u2 = u2.min(plain(v | m));
        s1 = s1.max(BigInteger.valueOf(v | m & Long.MIN_VALUE));
        s2 = s2.min(BigInteger.valueOf(v | m & Long.MAX_VALUE));
    }

    Known tidy() {
        stepA();
        if (s1.signum() >= 0 || s2.signum() < 0) {
            u1 = u1.max(s1.mod(TWO64));
            u2 = u2.min(s2.mod(TWO64));
        }
        if (u1.testBit(63) == u2.testBit(63)) {
            s1 = s1.max(signed(u1));
            s2 = s2.min(signed(u2));
        }
        long v2 = v;
        long m2 = m;
        for (int bit = 63; bit >= 0 && u1.testBit(bit) == u2.testBit(bit); bit--) {
            long one = 1L << bit;
            boolean is = u1.testBit(bit);
            if ((m & one) == 0 && (v & one) != 0 != is) {
                nothing = true;
                return this;
            }
            m2 &= ~one;
            v2 = is ? v2 | one : v2;
        }
        v = v2;
        m = m2;
        stepA();
        nothing = u1.compareTo(u2) > 0 || s1.compareTo(s2) > 0;
        return this;
    }

    Known cut() {
        Known k = new Known();
        k.v = v & F;
        k.m = m & F;
        k.wholeS();
        if (u1.shiftRight(32).equals(u2.shiftRight(32))) {
            k.u1 = plain(u1.longValue() & F);
            k.u2 = plain(u2.longValue() & F);
        } else {
            k.u1 = BigInteger.ZERO;
            k.u2 = plain(F);
        }
        return k.tidy();
    }

    /** What "x SIGN y" makes, of 64 bits or a W one. */
    static Known operate(String sign, boolean wide, Known left, Known right) {
        Known x = wide ? left : left.cut();
        Known y = wide ? right : right.cut();
        Known z;
        if (sign.equals("=")) {
            z = y.copy();
        } else if (sign.equals("neg")) {
            Known zero = number(0);
            z = minus(wide ? zero : zero.cut(), x).tidy();
        } else if (sign.startsWith("s") && (!wide || !sign.equals("s>>"))) {
            z = x.constant() && y.constant() ? number(concrete(sign, wide, x.v, y.v)) : any();
            z.tidy();
        } else {
            z = plainOperation(sign, wide, x, y).tidy();
        }
        return wide ? z : z.cut();
    }

    static Known extended(int bits, boolean wide, Known right) {
        Known y = wide ? right : right.cut();
        Known z;
        if (y.constant()) {
            z = number(y.v << 64 - bits >> 64 - bits);
        } else {
            z = signsOf(bits);
        }
        z.tidy();
        return wide ? z : z.cut();
    }

    static Known turned(String name, int bits, Known x) {
        if (!x.constant()) {
            return wide(bits / 8);
        }
        long low = bits == 64 ? x.v : x.v & (1L << bits) - 1;
        return number(name.equals("le") ? low : Long.reverseBytes(low) >>> 64 - bits);
    }

    static long concrete(String sign, boolean wide, long x, long y) {
        if (!wide && sign.startsWith("s")) {
            int a = (int) x;
            int b = (int) y;
            return (sign.equals("s>>") ? a >> (b & 31) : sign.equals("s/") ? b == 0 ? 0 : a / b : b == 0 ? a : a % b) & F;
        }
        switch (sign) {
            case "s/":
                return y == 0 ? 0 : x / y;
            case "s%":
                return y == 0 ? x : x % y;
            case "/":
                return y == 0 ? 0 : Long.divideUnsigned(x, y);
            case "%":
                return y == 0 ? x : Long.remainderUnsigned(x, y);
            default:
                return x * y;
        }
    }

    private static Known plainOperation(String sign, boolean wide, Known x, Known y) {
        boolean both = x.constant() && y.constant();
        switch (sign) {
            case "+":
                return plus(x, y);
            case "-":
                return minus(x, y);
            case "*":
                return both ? number(x.v * y.v) : times(x, y);
            case "/":
            case "%":
                return both ? number(concrete(sign, wide, x.v, y.v)) : sign.equals("/") ? over(x, y) : rest(x, y);
            case "&": {
                Known z = any();
                z.v = x.v & y.v;
                z.m = (x.v | x.m) & (y.v | y.m) & ~z.v;
                z.u1 = plain(z.v);
                z.u2 = x.u2.min(y.u2);
                return z;
            }
            case "|": {
                Known z = any();
                z.v = x.v | y.v;
                z.m = (x.m | y.m) & ~z.v;
                z.u1 = x.u1.max(y.u1);
                z.u2 = plain(z.v | z.m);
                return z;
            }
            case "^": {
                Known z = any();
                z.m = x.m | y.m;
                z.v = (x.v ^ y.v) & ~z.m;
                return z;
            }
            default:
                return shift(sign, wide, x, y);
        }
    }

    private static Known plus(Known x, Known y) {
        Known z = any();
        long a = x.v + y.v;
        long b = x.m + y.m + a ^ a | x.m | y.m;
        z.m = b;
        z.v = a & ~b;
        BigInteger low = x.u1.add(y.u1);
        BigInteger high = x.u2.add(y.u2);
        if (low.compareTo(TWO64) < 0 && high.compareTo(TWO64) < 0) {
            z.u1 = low;
            z.u2 = high;
        }
        z.putSigned(x.s1.add(y.s1), x.s2.add(y.s2));
        return z;
    }

    /** Whole, if one of them runs over. */
    private void putSigned(BigInteger low, BigInteger high) {
        if (low.compareTo(LEAST) >= 0 && low.compareTo(MOST) <= 0 && high.compareTo(LEAST) >= 0 && high.compareTo(MOST) <= 0) {
            s1 = low;
            s2 = high;
        }
    }

    private static Known minus(Known x, Known y) {
        Known z = any();
        long a = x.v - y.v;
        long b = (a + x.m ^ a - y.m) | x.m | y.m;
        z.m = b;
        z.v = a & ~b;
        if (y.u2.compareTo(x.u1) <= 0) {
            z.u1 = x.u1.subtract(y.u2);
            z.u2 = x.u2.subtract(y.u1).mod(TWO64);
        }
        z.putSigned(x.s1.subtract(y.s2), x.s2.subtract(y.s1));
        return z;
    }

    private static int zeros(Known x) {
        return Long.numberOfTrailingZeros(x.v | x.m);
    }

    private static Known times(Known x, Known y) {
        Known z = any();
        int n = zeros(x) + zeros(y);
        z.m = n >= 64 ? 0 : -1L << n;
        BigInteger f = BigInteger.valueOf(F);
        if (x.u2.compareTo(f) <= 0 && y.u2.compareTo(f) <= 0) {
            z.u1 = x.u1.multiply(y.u1).mod(TWO64);
            z.u2 = x.u2.multiply(y.u2);
        }
        return z;
    }

    private static Known over(Known x, Known y) {
        Known z = any();
        boolean by = y.constant() && y.v != 0;
        z.u1 = by ? x.u1.divide(plain(y.v)) : BigInteger.ZERO;
        z.u2 = by ? x.u2.divide(plain(y.v)) : x.u2;
        return z;
    }

    private static Known rest(Known x, Known y) {
        Known z = any();
        z.u1 = BigInteger.ZERO;
        z.u2 = y.constant() && y.v != 0 ? x.u2.min(plain(y.v).subtract(BigInteger.ONE)) : x.u2;
        return z;
    }

    private static Known shift(String sign, boolean wide, Known x, Known y) {
        Known z = any();
        boolean known = y.constant();
        int n = (int) y.v & (wide ? 63 : 31);
        if (sign.equals("<<")) {
            if (known) {
                z.v = x.v << n;
                z.m = x.m << n;
                if (x.u2.shiftLeft(n).compareTo(TWO64) < 0) {
                    z.u1 = x.u1.shiftLeft(n).mod(TWO64);
                    z.u2 = x.u2.shiftLeft(n);
                }
            }
            return z;
        }
        if (sign.equals(">>")) {
            z.v = known ? x.v >>> n : 0;
            z.m = known ? x.m >>> n : -1;
            z.u1 = known ? x.u1.shiftRight(n) : BigInteger.ZERO;
            z.u2 = known ? x.u2.shiftRight(n) : x.u2;
            return z;
        }
        z.v = known ? x.v >> n : 0;
        z.m = known ? x.m >> n : -1;
        z.s1 = known ? x.s1.shiftRight(n) : x.s1.signum() < 0 ? x.s1 : BigInteger.ZERO;
        z.s2 = known ? x.s2.shiftRight(n) : x.s2.signum() >= 0 ? x.s2 : BigInteger.valueOf(-1);
        return z;
    }

    /** "DECIDED is a jump": 1 yes, 0 no, -1 not. */
    static int decided(String jump, boolean wide, Known left, Known right) {
        Known x = wide ? left : left.cut();
        Known y = wide ? right : right.cut();
        switch (jump) {
            case "==":
                return same(x, y);
            case "!=":
                return same(x, y) < 0 ? -1 : 1 - same(x, y);
            case "&":
                return (x.v & ~x.m & y.v & ~y.m) != 0 ? 1 : ((x.v | x.m) & (y.v | y.m)) == 0 ? 0 : -1;
            case "<":
                return decided(">", true, y, x);
            case "<=":
                return decided(">=", true, y, x);
            case ">":
                return x.u1.compareTo(y.u2) > 0 ? 1 : x.u2.compareTo(y.u1) <= 0 ? 0 : -1;
            case ">=":
                return x.u1.compareTo(y.u2) >= 0 ? 1 : x.u2.compareTo(y.u1) < 0 ? 0 : -1;
            default:
                return wide ? decidedBySigns(jump, x, y) : decidedHalf(jump, x, y);
        }
    }

    private static int same(Known x, Known y) {
        if (x.constant() && y.constant() && x.v == y.v) {
            return 1;
        }
        boolean bit = (~x.m & ~y.m & (x.v ^ y.v)) != 0;
        boolean apart = x.u2.compareTo(y.u1) < 0 || y.u2.compareTo(x.u1) < 0 || x.s2.compareTo(y.s1) < 0 || y.s2.compareTo(x.s1) < 0;
        return bit || apart ? 0 : -1;
    }

    private static int decidedBySigns(String jump, Known x, Known y) {
        switch (jump) {
            case "s>":
                return x.s1.compareTo(y.s2) > 0 ? 1 : x.s2.compareTo(y.s1) <= 0 ? 0 : -1;
            case "s>=":
                return x.s1.compareTo(y.s2) >= 0 ? 1 : x.s2.compareTo(y.s1) < 0 ? 0 : -1;
            case "s<":
                return decidedBySigns("s>", y, x);
            default:
                return decidedBySigns("s>=", y, x);
        }
    }

    private static int decidedHalf(String jump, Known x, Known y) {
        if (!x.constant() || !y.constant()) {
            return -1;
        }
        int a = (int) x.v;
        int b = (int) y.v;
        boolean so = jump.equals("s>") ? a > b : jump.equals("s>=") ? a >= b : jump.equals("s<") ? a < b : a <= b;
        return so ? 1 : 0;
    }

    /** "NARROWED are x, y" on the way on which the condition is so, or not; they are tidied then. */
    static void narrow(String jump, boolean so, Known x, Known y) {
        switch (jump) {
            case "==":
            case "!=":
                if (jump.equals("==") == so) {
                    meet(x, y);
                } else {
                    avoid(x, y);
                }
                break;
            case "&":
                if (so && y.constant() && Long.bitCount(y.v) == 1) {
                    x.v |= y.v;
                    x.m &= ~y.v;
                } else if (!so && y.constant()) {
                    x.v &= ~y.v;
                    x.m &= ~y.v;
                }
                break;
            case ">":
            case "s>":
                greater(so ? x : y, so ? y : x, jump.startsWith("s"), so ? 1 : 0);
                break;
            case ">=":
            case "s>=":
                greater(so ? x : y, so ? y : x, jump.startsWith("s"), so ? 0 : 1);
                break;
            case "<":
            case "s<":
                greater(so ? y : x, so ? x : y, jump.startsWith("s"), so ? 1 : 0);
                break;
            default:
                greater(so ? y : x, so ? x : y, jump.startsWith("s"), so ? 0 : 1);
                break;
        }
    }

    /** a > b (by 1 at least), or a >= b. */
    private static void greater(Known a, Known b, boolean signs, int by) {
        BigInteger one = BigInteger.valueOf(by);
        if (signs) {
            BigInteger low = b.s1.add(one);
            BigInteger high = a.s2.subtract(one);
            a.s1 = a.s1.max(low);
            b.s2 = b.s2.min(high);
        } else {
            BigInteger low = b.u1.add(one);
            BigInteger high = a.u2.subtract(one);
            a.u1 = a.u1.max(low);
            b.u2 = b.u2.min(high);
        }
    }

    private static void meet(Known x, Known y) {
        x.v |= y.v;
        x.m &= y.m;
        x.u1 = x.u1.max(y.u1);
        x.u2 = x.u2.min(y.u2);
        x.s1 = x.s1.max(y.s1);
        x.s2 = x.s2.min(y.s2);
        y.v = x.v;
        y.m = x.m;
        y.u1 = x.u1;
        y.u2 = x.u2;
        y.s1 = x.s1;
        y.s2 = x.s2;
    }

    private static void avoid(Known x, Known y) {
        long c = x.v;
        boolean constant = x.constant();
        if (y.constant()) {
            x.goIn(y.v);
        }
        if (constant) {
            y.goIn(c);
        }
    }

    private void goIn(long c) {
        BigInteger u = plain(c);
        BigInteger s = BigInteger.valueOf(c);
        BigInteger one = BigInteger.ONE;
        u1 = u1.equals(u) ? u1.add(one).mod(TWO64) : u1;
        u2 = u2.equals(u) ? u2.subtract(one).mod(TWO64) : u2;
        s1 = s1.equals(s) ? signed(s1.add(one)) : s1;
        s2 = s2.equals(s) ? signed(s2.subtract(one)) : s2;
    }
}
