import java.math.BigInteger;

/** Part 2, TEXTS, and promises 2 to 10 at the edges that the document names, sentence by sentence. */
public final class EdgeTextTest {
    private static House house = new House();
    private static int calls = 0;

    public static void main(String[] args) {
        tapeEnds();
        tokens();
        numbersOfTokens();
        constants();
        wideNumbers();
        offsets();
        wheres();
        small();
        registers();
        labels();
        tooManyWords();
        firstOfWrong();
        printed();
        slotsAndWords();
        outKept();
        House.end();
    }

    /** An object is used for at most 512 calls. */
    private static House next() {
        calls++;
        if (calls % 3 == 0) {
            house = new House();
        }
        return house;
    }

    private static void wrong(String text, int place) {
        House x = next();
        House.due("words before", x.assemble(3, "exit"), 1);
        House.due("assemble <" + text + ">", x.assemble(3, text), -10 - place);
        House.due("words behind <" + text + ">", x.house.words(3), 1);
        House.due("word behind <" + text + ">", x.house.word(3, 0), 0x95);
    }

    private static void right(String text, long... words) {
        House x = next();
        House.due("assemble <" + text + ">", x.assemble(3, text), words.length);
        for (int i = 0; i < words.length; i++) {
            House.due("word " + i + " of <" + text + ">", x.house.word(3, i), words[i]);
        }
        House.due("word behind <" + text + ">", x.house.word(3, words.length), 0);
    }

    private static long word(int op, int d, int s, int off, int imm) {
        return op | (long) d << 8 | (long) s << 12 | (off & 0xFFFFL) << 16 | (long) imm << 32;
    }

    /** "NONE: there would be more than 4000." "NONE: n is below 0, or it has fewer." The tape at its ends. */
    private static void tapeEnds() {
        FilterHouse x = new FilterHouse();
        House.due("cut of an empty tape", x.cut(0), 0);
        House.due("cut by more than an empty tape has", x.cut(1), -1);
        House.due("cut below 0", x.cut(-1), -1);
        House.due("cut below 0", x.cut(Integer.MIN_VALUE), -1);
        House.due("cut by the greatest number", x.cut(Integer.MAX_VALUE), -1);
        int blanks = 0x20202020;
        for (int i = 1; i <= 199; i++) {
            House.due("feed " + i, x.feed(blanks, blanks, blanks, blanks, blanks), 20 * i);
        }
        House.due("feed up to 4000", x.feed(blanks, blanks, blanks, blanks, 0x65786974), 4000);
        House.due("feed of what would be 4020", x.feed(1, 1, 1, 1, 1), -1);
        House.due("cut by as many as it has", x.cut(4000), 0);
        House.due("cut by one more", x.cut(4001), -1);
        // what was refused changed nothing: the last word is still there
        House.due("a text of 4000 bytes", x.assemble(0), 1);
        House.due("its word", x.word(0, 0), 0x95);
        House.due("feed behind", x.feed(0x0A0B0C0D, 0x80FFFE7F, 0, 0, 0), 20);
        House.due("cut below 0 changes nothing", x.cut(-7), -1);
        House.due("cut by more changes nothing", x.cut(21), -1);
        House.due("cut", x.cut(8), 12);
        House.due("packet", x.packet(), 8);
        int[] bytes = {0x0A, 0x0B, 0x0C, 0x0D, 0x80, 0xFF, 0xFE, 0x7F};
        for (int i = 0; i < 8; i++) {
            House.due("byte " + i + ", highest first", x.packetByte(i), bytes[i]);
        }
        for (int i = 1; i <= 199; i++) {
            x.feed(0, 0, 0, 0, 0);
        }
        // 3981 bytes: one too many for twenty more
        House.due("feed", x.feed(0, 0, 0, 0, 0), 4000);
        House.due("cut to 3981", x.cut(3981), 19);
        House.due("feed to 4001", x.feed(0, 0, 0, 0, 0), -1);
        House.due("it has 3981 still", x.cut(3981), 0);
        House.due("cut to 3980", x.cut(3980), 1);
        House.due("feed to 4000", x.feed(0, 0, 0, 0, 0), 4000);
        // 4000 tokens, and that of the end
        House most = new House();
        House.due("4000 ends of statements", most.assemble(0, "\n".repeat(4000)), -10 - 4000);
        House.due("3996, and a statement", most.assemble(0, "\n".repeat(3996) + "exit"), 1);
        House.due("4000 signs", most.assemble(0, "(".repeat(4000)), -10);
        House.due("a comment of 3995 bytes", most.assemble(0, "exit;" + "x".repeat(3995)), 1);
        House.due("a name of 3999 letters", most.assemble(0, "a".repeat(3999) + ":"), -10 - 4000);
        House.due("650 labels", most.assemble(0, labelLines(650)), 1);
        for (int i = 0; i < 8; i++) {
            readAndUsedUp(i);
        }
    }

    private static String labelLines(int n) {
        StringBuilder text = new StringBuilder();
        for (int i = 0; i < n; i++) {
            text.append(Integer.toString(i + 1000, 16)).insert(text.lastIndexOf("\n") + 1, '_').append(":\n");
        }
        return text.append("goto _").append(Integer.toString(999 + n, 16)).toString();
    }

    /** "What reads the TAPE uses it up, whatever it answers." */
    private static void readAndUsedUp(int which) {
        House h = new House();
        FilterHouse x = h.house;
        x.map(0, 0, 4, 4, 2);
        x.map(2, 2, 0, 0, 2);
        for (int good = 0; good < 2; good++) {
            h.tape(new byte[good == 0 ? 300 : which == 3 || which == 7 ? 4 : 8]);
            int answer;
            switch (which) {
                case 0:
                    answer = x.assemble(good == 0 ? 0 : 8);
                    break;
                case 1:
                    answer = x.load(good == 0 ? 0 : 1);
                    break;
                case 2:
                    answer = x.put(0, 0);
                    break;
                case 3:
                    answer = x.get(0);
                    break;
                case 4:
                    answer = x.packet();
                    break;
                case 5:
                    answer = x.put(2, 0);
                    break;
                case 6:
                    answer = x.get(9);
                    break;
                default:
                    answer = x.remove(0);
                    break;
            }
            House.due("the tape is used up by " + which + ", which answered " + answer, x.cut(1), -1);
            House.due("all twenty bytes fit", x.feed(0, 0, 0, 0, 0), 20);
        }
    }

    /** "statements end with a byte 10, or the end, a token there"; blanks; comments; tokens as long as can be. */
    private static void tokens() {
        wrong("", 0);
        wrong("\n", 1);
        wrong("\t \t", 3);
        wrong(";", 1);
        wrong("; exit", 6);
        wrong("r1 = \nexit", 5);
        wrong("r1 =", 4);
        wrong("r1 = ", 5);
        wrong("r1 = ; 5\n", 8);
        wrong("r1 = ; 5", 8);
        wrong("exit;exit\nexit x", 15);
        right("exit;exit", 0x95);
        right("exit;\nexit", 0x95, 0x95);
        right("\n\n;\n exit\t\n\n", 0x95);
        // signs of two and three characters that are the text's last ones
        wrong("r1 +=", 5);
        wrong("r1 <<=", 6);
        wrong("r1 >>=", 6);
        wrong("r1 s>>=", 7);
        wrong("r1 +", 3);
        wrong("r1 <<", 3);
        wrong("r1 < <= 5", 3);
        wrong("if r1 >=", 8);
        wrong("if r1 ==", 8);
        wrong("if r1 !=", 8);
        right("r1<<=5", word(0x67, 1, 0, 0, 5));
        right("r1>>=5", word(0x77, 1, 0, 0, 5));
        right("r1 s>>=5", word(0xC7, 1, 0, 0, 5));
        wrong("r1s>>=5", 0);
    }

    private static void numbersOfTokens() {
        // a number and a name need nothing between them; a name and a number do
        right("r1=5ll", word(0x18, 1, 0, 0, 5), 0);
        right("if r1>5goto+1", word(0x25, 1, 0, 1, 5));
        wrong("goto+1a", 6);
        wrong("goto1", 0);
        // hexadecimal digits of both cases; 0x alone is a 0 and a name
        right("r1 = 0x5", word(0xB7, 1, 0, 0, 5));
        right("r1 = 0xaBcDeF", word(0xB7, 1, 0, 0, 0xABCDEF));
        right("r1 = 0x0000000000000000000000000000000F", word(0xB7, 1, 0, 0, 15));
        right("r1 = 00000000000000000000000000000000017", word(0xB7, 1, 0, 0, 17));
        wrong("r1 = 0x", 6);
        wrong("r1 = 0xg", 6);
        wrong("r1 = 0x5g", 8);
        wrong("r1 = 0X5", 6);
        wrong("r1 = 5f", 6);
        // signs that are none, bytes that are none
        wrong("!", 0);
        wrong("r1 = ~5", 5);
        wrong("exit\r\n", 4);
        wrong("exit" + (char) 0, 4);
        wrong("exit " + (char) 255, 5);
        wrong("exit" + (char) 0xA0, 4);
        wrong("exit,", 4);
        wrong("a@: exit", 0);
        wrong((char) 0xC0 + ": exit", 0);
        right("; " + (char) 255 + (char) 0 + "$\nexit", 0x95);
    }

    /** From these on (least, most) a NUMBER stands in the text; one beyond is WRONG, the NUMBER being its place. */
    private static void ends(String text, String least, String most, int wordAt, int shift, int bits) {
        BigInteger low = new BigInteger(least);
        BigInteger high = new BigInteger(most);
        BigInteger one = BigInteger.ONE;
        for (BigInteger x : new BigInteger[] {low, low.add(one), high.subtract(one), high, BigInteger.ZERO}) {
            for (int hex = 0; hex < 2; hex++) {
                String full = String.format(text, put(text, x, hex == 1));
                House h = next();
                int n = h.assemble(3, full);
                House.due("words of <" + full + ">", n > 0, true);
                long mask = bits == 64 ? -1 : (1L << bits) - 1;
                House.due("number in <" + full + ">", h.house.word(3, wordAt) >>> shift & mask, x.longValue() & mask);
            }
        }
        BigInteger wrap = one.shiftLeft(64);
        for (BigInteger x : new BigInteger[] {high.add(one), wrap, wrap.add(BigInteger.valueOf(5)), one.shiftLeft(70), BigInteger.TEN.pow(40), low.subtract(one),
            wrap.negate(), wrap.negate().subtract(BigInteger.valueOf(5)), one.shiftLeft(68).negate()}) {
            if (low.signum() == 0 && x.signum() < 0) {
                continue;
            }
            for (int hex = 0; hex < 2; hex++) {
                String full = String.format(text, put(text, x, hex == 1));
                String before = text.substring(0, text.indexOf("%s"));
                wrong(full, before.length() + (text.contains("+") && !text.contains("+=") && !text.contains("+ 0") || x.signum() < 0 ? 1 : 0));
            }
        }
    }

    /** Of a WHERE the sign stands always. */
    private static String put(String text, BigInteger x, boolean hex) {
        boolean where = text.contains("+") && !text.contains("+=") && !text.contains("+ 0");
        String number = hex ? "0x" + x.abs().toString(16) : x.abs().toString();
        return (x.signum() < 0 ? "-" : where ? "+" : "") + number;
    }

    /** "CONST: [-] NUMBER, from -2^31 to 2^32 - 1 (its lowest 32 bits)", wherever one stands. */
    private static void constants() {
        for (String text : new String[] {"r1 = %s", "w1 = %s", "r1 += %s", "w9 -= %s", "r1 *= %s", "r1 |= %s", "w1 &= %s", "r1 ^= %s",
            "*(u8 *)(r1 + 0) = %s", "*(u64 *)(r10 + 0) = %s"}) {
            ends(text, "-2147483648", "4294967295", 0, 32, 32);
        }
        for (String cmp : new String[] {"==", "!=", ">", ">=", "<", "<=", "&", "s>", "s>=", "s<", "s<="}) {
            for (String reg : new String[] {"r1", "w1", "r10"}) {
                constantOfJump("if " + reg + " " + cmp + " ");
            }
        }
        right("r1 = - 5", word(0xB7, 1, 0, 0, -5));
        right("r1 += -0", word(0x07, 1, 0, 0, 0));
        wrong("r1 = - - 5", 7);
        wrong("r1 = + 5", 5);
        wrong("r1 += + 5", 6);
    }

    private static void constantOfJump(String begin) {
        for (long c : new long[] {-(1L << 31), (1L << 32) - 1, 1L << 31, 0}) {
            House h = next();
            House.due("words of " + begin + c, h.assemble(3, begin + c + " goto +1"), 1);
            House.due("IMM of " + begin + c, h.house.word(3, 0) >> 32, (int) c);
        }
        wrong(begin + "-2147483649 goto +1", begin.length() + 1);
        wrong(begin + "4294967296 goto +1", begin.length());
        wrong(begin + "18446744073709551617 goto +1", begin.length());
    }

    /** "REG = [-] NUMBER ll (-2^63 .. 2^64 - 1; without ll it is a CONST)", and what word may be. */
    private static void wideNumbers() {
        BigInteger least = BigInteger.ONE.shiftLeft(63).negate();
        BigInteger most = BigInteger.ONE.shiftLeft(64).subtract(BigInteger.ONE);
        for (BigInteger x : new BigInteger[] {least, least.add(BigInteger.ONE), most, BigInteger.ONE.shiftLeft(63), BigInteger.ZERO, BigInteger.ONE.negate(),
            BigInteger.ONE.shiftLeft(32)}) {
            long c = x.longValue();
            right("r7 = " + x + " ll", word(0x18, 7, 0, 0, (int) c), c >>> 32 << 32);
            right("r7 = " + put("", x, true) + "ll", word(0x18, 7, 0, 0, (int) c), c >>> 32 << 32);
        }
        wrong("r7 = 18446744073709551616 ll", 5);
        wrong("r7 = 0x10000000000000000 ll", 5);
        wrong("r7 = 18446744073709551625 ll", 5);
        wrong("r7 = -9223372036854775809 ll", 6);
        wrong("r7 = -18446744073709551615 ll", 6);
        wrong("r7 = -18446744073709551616 ll", 6);
        // without ll it is a CONST
        wrong("r7 = 4294967296", 5);
        wrong("r7 = -2147483649", 6);
        wrong("r7 = 18446744073709551615", 5);
        right("r7 = 4294967295", word(0xB7, 7, 0, 0, -1));
        // ll stands behind a REG = alone, and a r one
        wrong("r7 += 5 ll", 8);
        wrong("w7 = 5 ll", 7);
        wrong("r7 = r1 ll", 8);
        wrong("r7 = 5 ll ll", 10);
        wrong("r7 = 5 l", 7);
        wrong("r7 = 5 lll", 7);
        wrong("*(u64 *)(r1 + 0) = 5 ll", 21);
        wrong("r7 = - r7 ll", 10);
        ends("word %s", "0", "18446744073709551615", 0, 0, 64);
        right("word 0x8000000000000000", Long.MIN_VALUE);
        wrong("word - 1", 5);
    }

    /** "OFF -32768 .. 32767" of a PTR. */
    private static void offsets() {
        for (String text : new String[] {"r1 = *(u8 *)(r2 %s)", "r1 = *(s32 *)(r2 %s)", "*(u64 *)(r2 %s) = 5", "*(u16 *)(r2 %s) = r3", "lock *(u32 *)(r2 %s) += r3",
            "fetch *(u64 *)(r2 %s) ^= r3", "xchg *(u64 *)(r2 %s) r3", "cmpxchg *(u32 *)(r2 %s) r3"}) {
            int at = text.indexOf('%') + 2;
            for (int off : new int[] {-32768, -32767, -1, 0, 1, 32766, 32767}) {
                for (String number : new String[] {"" + Math.abs(off), "0x" + Integer.toHexString(Math.abs(off))}) {
                    String full = String.format(text, (off < 0 ? "- " : "+ ") + number);
                    House h = next();
                    House.due("words of <" + full + ">", h.assemble(3, full), 1);
                    House.due("OFF of <" + full + ">", (short) (h.house.word(3, 0) >> 16), off);
                }
            }
            right(String.format(text, "- 0"), next().assemble(3, String.format(text, "+ 0")) == 1 ? house.house.word(3, 0) : 0);
            wrong(String.format(text, "+ 32768"), at);
            wrong(String.format(text, "- 32769"), at);
            wrong(String.format(text, "+ 65536"), at);
            wrong(String.format(text, "+ 18446744073709551616"), at);
            wrong(String.format(text, "- 18446744073709551615"), at);
            wrong(String.format(text, "5"), at - 2);
            wrong(String.format(text, "+ - 5"), at);
            wrong(String.format(text, "+ r3"), at);
        }
    }

    /** "WHERE: +|- NUMBER (so many words behind the next one; as OFF can be, of gotol, call as IMM)". */
    private static void wheres() {
        for (int far : new int[] {-32768, -1, 0, 1, 32767}) {
            String where = (far < 0 ? "-" : "+") + Math.abs(far);
            right("goto " + where, word(0x05, 0, 0, far, 0));
            right("goto " + where.charAt(0) + " " + Math.abs(far), word(0x05, 0, 0, far, 0));
            right("if r1 > 2 goto " + where, word(0x25, 1, 0, far, 2));
            right("if w1 & w2 goto " + where, word(0x4E, 1, 2, far, 0));
            right("gotol " + where, word(0x06, 0, 0, 0, far));
            right("call " + where, word(0x85, 0, 1, 0, far));
        }
        for (long far : new long[] {-(1L << 31), (1L << 31) - 1, -(1L << 31) + 1}) {
            String where = (far < 0 ? "-" : "+") + Math.abs(far);
            right("gotol " + where, word(0x06, 0, 0, 0, (int) far));
            right("call " + where, word(0x85, 0, 1, 0, (int) far));
        }
        for (String begin : new String[] {"goto ", "if r1 > 2 goto ", "if w1 s<= w2 goto "}) {
            wrong(begin + "+32768", begin.length() + 1);
            wrong(begin + "-32769", begin.length() + 1);
            wrong(begin + "+65536", begin.length() + 1);
        }
        for (String begin : new String[] {"gotol ", "call "}) {
            wrong(begin + "+2147483648", begin.length() + 1);
            wrong(begin + "-2147483649", begin.length() + 1);
            wrong(begin + "+4294967296", begin.length() + 1);
            wrong(begin + "-18446744073709551616", begin.length() + 1);
        }
        wrong("goto 5", 5);
        wrong("gotol 5", 6);
        wrong("goto + a", 7);
        wrong("goto", 4);
        wrong("goto +", 6);
        wrong("goto a b", 7);
        wrong("goto w0", 5);
        wrong("gotol r10", 6);
        wrong("call w9", 5);
        wrong("if r1 > 2 goto r3", 15);
    }

    /** map 0 .. 7; call's NUMBER not below 0; what is no instruction is WRONG at the statement's begin. */
    private static void small() {
        for (int m = 0; m <= 7; m++) {
            right("r9 = map " + m, word(0x18, 9, 1, 0, m), 0);
        }
        wrong("r9 = map 8", 9);
        wrong("r9 = map 4294967296", 9);
        wrong("r9 = map 18446744073709551616", 9);
        wrong("r9 = map -1", 9);
        wrong("r9 = map", 8);
        wrong("r9 = map x", 9);
        ends("call %s", "0", "2147483647", 0, 32, 32);
        wrong("call", 4);
        for (int n : new int[] {0, 1, 63}) {
            right("r1 <<= " + n, word(0x67, 1, 0, 0, n));
            right("r1 s>>= " + n, word(0xC7, 1, 0, 0, n));
        }
        for (int n : new int[] {0, 1, 31}) {
            right("w1 >>= " + n, word(0x74, 1, 0, 0, n));
            right("w1 s>>= " + n, word(0xC4, 1, 0, 0, n));
        }
        for (String sign : new String[] {"<<=", ">>=", "s>>="}) {
            wrong("  r1 " + sign + " 64", 2);
            wrong("r1 " + sign + " -1", 0);
            wrong("r1 " + sign + " 4294967295", 0);
            wrong("a: w1 " + sign + " 32", 3);
            wrong("w1 " + sign + " 63", 0);
        }
        for (String sign : new String[] {"/=", "%=", "s/=", "s%="}) {
            wrong("r1 " + sign + " 0", 0);
            wrong(" w1 " + sign + " -0", 1);
            wrong("r1 " + sign + " 0x0", 0);
            wrong("r10 " + sign + " 5", 0);
        }
        right("r1 s/= -1", word(0x37, 1, 0, 1, -1));
        wrong("w1 = (s32) w2", 0);
        wrong("r1 = (s64) r2", 6);
        for (String name : new String[] {"le", "be", "bswap"}) {
            wrong("r1 = " + name + "8 r1", 5);
            wrong("r1 = " + name + " r1", 5);
            wrong("r1 = " + name + "16 r2", 10 + name.length() - 2);
            wrong("r1 = " + name + "16 w1", 10 + name.length() - 2);
            wrong("r10 = " + name + "64 r10", 0);
        }
        for (String text : new String[] {"lock *(u16 *)(r1 + 0) += r2", "fetch *(u8 *)(r1 + 0) ^= r2", "xchg *(u8 *)(r1 + 0) r2", "cmpxchg *(u16 *)(r1 + 0) r2",
            "fetch *(u32 *)(r1 + 0) |= r10", "xchg *(u32 *)(r1 + 0) r10"}) {
            wrong(text, 0);
            wrong("a: " + text + "\nexit", 3);
        }
        right("lock *(u32 *)(r10 + 0) |= r10", word(0xC3, 10, 10, 0, 0x40));
        right("cmpxchg *(u32 *)(r10 + 0) r10", word(0xC3, 10, 10, 0, 0xF1));
        wrong("lock *(u64 *)(r1 + 0) += 5", 25);
        wrong("lock *(u64 *)(r1 + 0) r2", 22);
        wrong("xchg *(s32 *)(r1 + 0) r2", 7);
        wrong("lock r1 += r2", 5);
    }

    /** "REG is a NAME r0 .. r10, or w0 .. w10"; all other names are none. */
    private static void registers() {
        for (int r = 0; r <= 9; r++) {
            right("r" + r + " = r" + r, word(0xBF, r, r, 0, 0));
            right("w" + r + " = w" + r, word(0xBC, r, r, 0, 0));
        }
        right("r1 = r10", word(0xBF, 1, 10, 0, 0));
        right("w1 = w10", word(0xBC, 1, 10, 0, 0));
        for (String name : new String[] {"r", "w", "r00", "r01", "r11", "r12", "r19", "r20", "r100", "r1x", "rx", "wx", "w_", "r_", "rA", "R1", "W1", "s1", "x1", "_r1", "wr1", "r10_"}) {
            wrong(name + " = 5", 0);
            wrong("r1 = " + name, 5);
            right(name + ": goto " + name, word(0x05, 0, 0, -1, 0));
        }
        for (int r = 0; r <= 10; r++) {
            for (String name : new String[] {"r" + r, "w" + r}) {
                wrong(name + ": exit", name.length());
                wrong(name + " : exit", name.length() + 1);
                wrong("goto " + name + "\nexit", 5);
                wrong("a: " + name + ": exit", 3 + name.length());
            }
        }
        wrong("r10 = 1", 0);
        wrong("w10 = 1", 0);
        wrong("w1 = r1", 5);
        wrong("r1 = (s8) w1", 10);
        wrong("w1 = (s16) r1", 11);
        wrong("w1 = - w2", 7);
        wrong("w1 = - r1", 7);
        wrong("w1 = *(u32 *)(r1 + 0)", 5);
        wrong("*(u32 *)(w1 + 0) = 5", 9);
        wrong("*(u32 *)(r1 + 0) = w5", 19);
        wrong("w1 = map 0", 5);
        wrong("w1 = bswap32 w1", 5);
        wrong("if w1 > r1 goto +0", 8);
    }

    /** "[NAME :] [STATEMENT]"; "A label may not be told twice, nor be the name of a register". */
    private static void labels() {
        wrong("a: exit\n b: exit\n a: exit", 18);
        wrong("a: a: exit", 3);
        wrong("a:\na:", 3);
        wrong("a:", 2);
        wrong("a", 0);
        wrong("a\n:", 0);
        wrong(": exit", 0);
        wrong("5: exit", 0);
        wrong("a: b", 3);
        wrong("a: b: exit", 3);
        wrong("a: b + : exit", 3);
        // no register's name, and words of statements, can be labels
        for (String name : new String[] {"if", "goto", "gotol", "call", "exit", "word", "map", "ll", "le16", "be64", "bswap32", "s", "s8", "u8", "lock", "fetch", "xchg", "cmpxchg"}) {
            right(name + ": goto " + name, word(0x05, 0, 0, -1, 0));
            right("exit\n" + name + " :\nif r1 s> 1 goto " + name, 0x95, word(0x65, 1, 0, -1, 1));
            right("call " + name + "\nexit\n" + name + ": exit", word(0x85, 0, 1, 0, 1), 0x95, 0x95);
        }
        // the word of the next statement: behind a pair, behind empty lines, behind the last word
        right("goto a\nr1 = 1 ll\na:\n\n; nothing\nexit", word(0x05, 0, 0, 2, 0), word(0x18, 1, 0, 0, 1), 0, 0x95);
        right("gotol a\na:", word(0x06, 0, 0, 0, 0));
        right("a: r1 = 1 ll\ngotol a", word(0x18, 1, 0, 0, 1), 0, word(0x06, 0, 0, 0, -3));
        right("a: b: ".substring(0, 3) + "\nb: exit\ngoto a\ngoto b", 0x95, word(0x05, 0, 0, -2, 0), word(0x05, 0, 0, -3, 0));
        // the farthest ones
        String many = "r0 = 0\n".repeat(198);
        House h = new House();
        House.due("a label 198 words on", h.assemble(0, "goto a\n" + many + "a: exit"), 200);
        House.due("its OFF", h.house.word(0, 0), word(0x05, 0, 0, 198, 0));
        House.due("a label 199 words back", h.assemble(0, "a: exit\n" + many + "call a"), 200);
        House.due("its IMM", h.house.word(0, 199), word(0x85, 0, 1, 0, -200));
        House.due("a label behind 200 words", h.assemble(0, "goto a\n" + many + "exit\na:"), 200);
        House.due("its OFF", h.house.word(0, 0), word(0x05, 0, 0, 199, 0));
        // 200 of them
        House.due("200 of them", h.assemble(0, "goto a\n".repeat(199) + "a: goto a"), 200);
        House.due("the first", h.house.word(0, 0), word(0x05, 0, 0, 198, 0));
        House.due("the last", h.house.word(0, 199), word(0x05, 0, 0, -1, 0));
    }

    /** "or there would be more than 200 words": the first token of the statement, behind a label. */
    private static void tooManyWords() {
        House h = new House();
        String most = "exit\n".repeat(199);
        House.due("200 words", h.assemble(2, most + "exit"), 200);
        House.due("200 words and empty lines", h.assemble(2, most + "exit\n\n;\na:\n"), 200);
        House.due("201 words", h.assemble(2, most + "exit\n exit"), -10 - 1001);
        House.due("the program there stays", h.house.words(2), 200);
        House.due("201 words, the last behind a label", h.assemble(2, most + "exit\na :  exit"), -10 - 1005);
        House.due("a pair as the 200th and the 201st", h.assemble(2, most + "r1 = 1 ll"), -10 - 995);
        House.due("a map as the 200th and the 201st", h.assemble(2, most + "r1 = map 1"), -10 - 995);
        House.due("a pair as the 199th and the 200th", h.assemble(2, "exit\n".repeat(198) + "r1 = 1 ll"), 200);
        House.due("the 201st has a wrong token", h.assemble(2, most + "exit\nr1 = $"), -10 - 1005);
        House.due("the 201st is no instruction", h.assemble(2, most + "exit\nr10 = 1"), -10 - 1000);
        House.due("what is too much counts ahead of a name that no label has", h.assemble(2, "goto a\n" + most + "exit"), -10 - 1002);
        House.due("100 pairs", h.assemble(2, "r1 = 1 ll\n".repeat(100)), 200);
        House.due("101 pairs", h.assemble(2, "r1 = 1 ll\n".repeat(101)), -10 - 1000);
    }

    /** "WRONG is, read token by token, the first one that cannot stand where it does .. ; if there is none of these .." */
    private static void firstOfWrong() {
        wrong("goto a", 5);
        wrong("goto a\ngoto b", 5);
        wrong("goto b\na: goto a\ncall c", 5);
        wrong("a: goto a\ngoto c\ngoto b", 15);
        wrong("goto a\nr10 = 1", 7);
        wrong("goto a\nexit exit", 12);
        wrong("r10 = 1\nexit exit", 0);
        wrong("r10 = 1 exit", 8);
        wrong("r10 = $", 6);
        wrong("r10 /= 4294967296", 7);
        wrong("a: exit\nr10 = 1\na: exit", 8);
        wrong("a: exit\na: r10 = 1", 8);
        wrong("foo bar", 0);
        wrong("a: foo bar", 3);
        wrong("foo $", 0);
        wrong("$ foo", 0);
        wrong("if", 2);
        wrong("if r1", 5);
        wrong("if r1 s", 7);
        wrong("if r1 s s> 5 goto +1", 8);
        wrong("if r1 > 5", 9);
        wrong("if r1 > 5 goto", 14);
        wrong("if r1 += 5 goto +1", 6);
        wrong("if 5 > 5 goto +1", 3);
        wrong("r1 = * (u8 *)(r1 + 0) x", 22);
        wrong("*(u8 *)(r1 + 0)", 15);
        wrong("*(u8 *)(r1 + 0) =", 17);
        wrong("*(u8 *)(r1 + 0) = (", 18);
        wrong("*(u8 *)(r1 + 0) = *(u8 *)(r1 + 0)", 18);
        wrong("*(u128 *)(r1 + 0) = 1", 2);
        wrong("*u8", 1);
        wrong("*=", 0);
        wrong("r1 = (s8)", 9);
        wrong("r1 = ()", 6);
        wrong("exit 5", 5);
        wrong("call 5 5", 7);
        wrong("word 5 5", 7);
        wrong("word", 4);
        wrong("r1 = le16", 9);
        wrong("r1", 2);
        wrong("r1 5", 3);
        wrong("r1 s", 4);
        wrong("r1 s= 5", 4);
        wrong("r1 s += 5", 5);
        wrong("r1 s<<= 5", 4);
    }

    private static void prints(String text, long... words) {
        House h = next();
        House.due("load", h.tapeWords(words).house.load(4), words.length);
        House.due("print", h.house.print(4), text.length());
        House.due("printed", h.out(), text);
        House.due("outs", h.house.outs(), text.length());
        House.due("out behind", h.house.out(text.length()), -1);
    }

    /** "PRINTED a program has a statement for each instruction ..": its numbers at their ends. */
    private static void printed() {
        prints("r0 = -2147483648\n", word(0xB7, 0, 0, 0, Integer.MIN_VALUE));
        prints("w0 = 2147483647\n", word(0xB4, 0, 0, 0, Integer.MAX_VALUE));
        prints("r0 = -1\nr0 += 0\n", word(0xB7, 0, 0, 0, -1), word(0x07, 0, 0, 0, 0));
        prints("r0 = 0 ll\n", word(0x18, 0, 0, 0, 0), 0);
        prints("r0 = 18446744073709551615 ll\n", word(0x18, 0, 0, 0, -1), -1L << 32);
        prints("r0 = 9223372036854775808 ll\n", word(0x18, 0, 0, 0, 0), Long.MIN_VALUE);
        prints("r0 = 4294967295 ll\n", word(0x18, 0, 0, 0, -1), 0);
        prints("r0 = 10000000000000000000 ll\n", word(0x18, 0, 0, 0, (int) -8446744073709551616L), -8446744073709551616L >>> 32 << 32);
        prints("r0 = *(u8 *)(r10 - 32768)\n", word(0x71, 0, 10, -32768, 0));
        prints("r0 = *(s16 *)(r10 + 32767)\n", word(0x89, 0, 10, 32767, 0));
        prints("*(u16 *)(r10 + 0) = -2147483648\n", word(0x6A, 10, 0, 0, Integer.MIN_VALUE));
        prints("goto +0\ngoto -1\ngoto +32767\ngoto -32768\n", word(5, 0, 0, 0, 0), word(5, 0, 0, -1, 0), word(5, 0, 0, 32767, 0), word(5, 0, 0, -32768, 0));
        prints("gotol +2147483647\ngotol -2147483648\ncall -2147483648\ncall +0\ncall 0\ncall 2147483647\n", word(6, 0, 0, 0, Integer.MAX_VALUE),
                word(6, 0, 0, 0, Integer.MIN_VALUE), word(0x85, 0, 1, 0, Integer.MIN_VALUE), word(0x85, 0, 1, 0, 0), word(0x85, 0, 0, 0, 0),
                word(0x85, 0, 0, 0, Integer.MAX_VALUE));
        prints("if w1 s<= -2147483648 goto -32768\n", word(0xD6, 1, 0, -32768, Integer.MIN_VALUE));
        prints("r1 s/= 7\nw1 s%= w2\nr1 s>>= r2\n", word(0x37, 1, 0, 1, 7), word(0x9C, 1, 2, 1, 0), word(0xCF, 1, 2, 0, 0));
        prints("r1 = - r1\nw1 = - w1\n", word(0x87, 1, 0, 0, 0), word(0x84, 1, 0, 0, 0));
        // what is no instruction, or a pair whose second word is wrong, is a word; the second is looked at by itself
        prints("word 0x8000000000000000\n", Long.MIN_VALUE);
        prints("word 0x0000000000000018\n", 0x18);
        prints("word 0x0000000000000018\nexit\n", 0x18, 0x95);
        prints("word 0x0000000000000018\nr0 = 0 ll\n", 0x18, 0x18, 0);
        prints("word 0x0000000800001018\nword 0x0000000000000000\n", word(0x18, 0, 1, 0, 8), 0);
        prints("word 0xffffffff00001018\nword 0x0000000000000000\n", word(0x18, 0, 1, 0, -1), 0);
        prints("word 0x0000000000000a95\n", 0xA95);
        // 200 of the longest
        House h = new House();
        long[] words = new long[200];
        java.util.Arrays.fill(words, word(0xC3, 10, 10, -32768, 0xF1));
        House.due("load", h.tapeWords(words).house.load(0), 200);
        String line = "cmpxchg *(u32 *)(r10 - 32768) r10\n";
        House.due("print", h.house.print(0), 200 * line.length());
        House.due("printed", h.out(), line.repeat(200));
    }

    /** "NONE: no such slot", "0: none such", "not 8 .. 1600 bytes, not eight for each". */
    private static void slotsAndWords() {
        for (int slot : new int[] {-1, 8, Integer.MIN_VALUE, Integer.MAX_VALUE}) {
            House h = new House();
            House.due("assemble of no slot " + slot, h.assemble(slot, "exit"), -1);
            House.due("assemble of no slot, a wrong text", h.assemble(slot, "$"), -1);
            House.due("load of no slot " + slot, h.tapeWords(0x95).house.load(slot), -1);
            House.due("words of no slot", h.house.words(slot), 0);
            House.due("word of no slot", h.house.word(slot, 0), 0);
            House.due("print of no slot", h.house.print(slot), -1);
            House.due("judge of no slot", h.house.judge(slot), -1);
            House.due("taken of no slot", h.house.taken(slot), false);
            House.due("run of no slot", h.house.run(slot, 0), -1);
            for (int other = 0; other < 8; other++) {
                House.due("nothing came to another slot", h.house.words(other), 0);
            }
        }
        House h = new House();
        FilterHouse x = h.house;
        for (int slot = 0; slot < 8; slot++) {
            House.due("assemble", h.assemble(slot, "r0 = " + slot + "\nexit"), 2);
        }
        for (int slot = 0; slot < 8; slot++) {
            House.due("word of slot " + slot, x.word(slot, 0), word(0xB7, 0, 0, 0, slot));
        }
        for (int n : new int[] {0, 1, 7, 9, 12, 15, 1593, 1599, 1601, 1607, 1608, 4000}) {
            House.due("load of " + n + " bytes", h.tape(new byte[n]).house.load(7), -1);
            House.due("the program stays", x.words(7), 2);
        }
        House.due("load of 8 bytes", h.tape(new byte[8]).house.load(7), 1);
        House.due("a shorter program has no more words", x.word(7, 1), 0);
        House.due("load of 16 bytes", h.tape(new byte[16]).house.load(7), 2);
        House.due("load of 1592 bytes", h.tape(new byte[1592]).house.load(7), 199);
        byte[] all = new byte[1600];
        all[1592] = (byte) 0x95;
        all[1599] = (byte) 0x80;
        House.due("load of 1600 bytes", h.tape(all).house.load(7), 200);
        House.due("the last word", x.word(7, 199), 0x8000000000000095L);
        House.due("behind it", x.word(7, 200), 0);
        House.due("ahead of the first", x.word(7, -1), 0);
        House.due("far behind", x.word(7, Integer.MAX_VALUE) | x.word(7, Integer.MIN_VALUE), 0);
        House.due("assemble of one word", h.assemble(7, "exit"), 1);
        House.due("words", x.words(7), 1);
        House.due("word 1", x.word(7, 1), 0);
        House.due("word 199", x.word(7, 199), 0);
    }

    /** "What is refused changes nothing"; "What comes to the OUT takes the place of what was there." */
    private static void outKept() {
        House h = new House();
        FilterHouse x = h.house;
        House.due("outs at first", x.outs(), 0);
        House.due("out at first", x.out(0), -1);
        h.assemble(0, "exit\nexit");
        House.due("print", x.print(0), 10);
        House.due("print of a slot without a program", x.print(1), -1);
        House.due("print of no slot", x.print(-1), -1);
        House.due("the OUT stays", h.out(), "exit\nexit\n");
        for (int i : new int[] {-1, 10, Integer.MIN_VALUE, Integer.MAX_VALUE}) {
            House.due("out " + i, x.out(i), -1);
        }
        h.assemble(0, "exit");
        House.due("the OUT is what was printed", h.out(), "exit\nexit\n");
        House.due("print", x.print(0), 5);
        House.due("a shorter one takes its place", h.out(), "exit\n");
        House.due("nothing behind it", x.out(5), -1);
    }
}
