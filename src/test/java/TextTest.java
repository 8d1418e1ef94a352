/** Promises 4 to 10: assemble, load, words, word, print, outs, out. */
public final class TextTest {
    private static final House HOUSE = new House();

    public static void main(String[] args) {
        operations();
        jumps();
        memory();
        pairs();
        freeForms();
        labels();
        wrongTokens();
        wrongNumbers();
        wrongNames();
        wrongInstructions();
        sizes();
        odd();
        loads();
        outs();
        House.end();
    }

    private static long word(int op, int d, int s, int off, int imm) {
        return op | (long) d << 8 | (long) s << 12 | (off & 0xFFFFL) << 16 | (long) imm << 32;
    }

    /** A statement of one word, which is printed as it was written. */
    private static void same(String text, long word) {
        House.due("assemble " + text, HOUSE.assemble(0, text), 1);
        House.due("word of " + text, HOUSE.house.word(0, 0), word);
        House.due("print of " + text, HOUSE.house.print(0), text.length() + 1);
        House.due("print of " + text, HOUSE.out(), text + "\n");
    }

    private static void operations() {
        String[] signs = {"+=", "-=", "*=", "/=", "|=", "&=", "<<=", ">>=", "%=", "^=", "=", "s>>="};
        int[] codes = {0, 0x10, 0x20, 0x30, 0x40, 0x50, 0x60, 0x70, 0x90, 0xA0, 0xB0, 0xC0};
        for (int i = 0; i < signs.length; i++) {
            same("r1 " + signs[i] + " 5", word(codes[i] | 7, 1, 0, 0, 5));
            same("w9 " + signs[i] + " 31", word(codes[i] | 4, 9, 0, 0, 31));
            same("r0 " + signs[i] + " r10", word(codes[i] | 15, 0, 10, 0, 0));
            same("w3 " + signs[i] + " w4", word(codes[i] | 12, 3, 4, 0, 0));
        }
        same("r1 += -2147483648", word(0x07, 1, 0, 0, Integer.MIN_VALUE));
        same("r1 >>= 63", word(0x77, 1, 0, 0, 63));
        same("r2 s/= -3", word(0x37, 2, 0, 1, -3));
        same("w2 s/= w3", word(0x3C, 2, 3, 1, 0));
        same("r2 s%= r3", word(0x9F, 2, 3, 1, 0));
        same("w2 s%= 7", word(0x94, 2, 0, 1, 7));
        same("r4 = - r4", word(0x87, 4, 0, 0, 0));
        same("w4 = - w4", word(0x84, 4, 0, 0, 0));
        same("r1 = (s8) r2", word(0xBF, 1, 2, 8, 0));
        same("r1 = (s16) r2", word(0xBF, 1, 2, 16, 0));
        same("r1 = (s32) r2", word(0xBF, 1, 2, 32, 0));
        same("w1 = (s8) w2", word(0xBC, 1, 2, 8, 0));
        same("w1 = (s16) w2", word(0xBC, 1, 2, 16, 0));
        same("r1 = le16 r1", word(0xD4, 1, 0, 0, 16));
        same("r1 = le64 r1", word(0xD4, 1, 0, 0, 64));
        same("r2 = be32 r2", word(0xDC, 2, 0, 0, 32));
        same("r3 = bswap16 r3", word(0xD7, 3, 0, 0, 16));
        same("r3 = bswap64 r3", word(0xD7, 3, 0, 0, 64));
    }

    private static void jumps() {
        String[] signs = {"==", ">", ">=", "&", "!=", "s>", "s>=", "<", "<=", "s<", "s<="};
        int[] codes = {0x10, 0x20, 0x30, 0x40, 0x50, 0x60, 0x70, 0xA0, 0xB0, 0xC0, 0xD0};
        for (int i = 0; i < signs.length; i++) {
            same("if r10 " + signs[i] + " -5 goto +3", word(codes[i] | 5, 10, 0, 3, -5));
            same("if w1 " + signs[i] + " 5 goto -32768", word(codes[i] | 6, 1, 0, -32768, 5));
            same("if r1 " + signs[i] + " r10 goto +32767", word(codes[i] | 13, 1, 10, 32767, 0));
            same("if w2 " + signs[i] + " w3 goto +0", word(codes[i] | 14, 2, 3, 0, 0));
        }
        same("goto +7", word(5, 0, 0, 7, 0));
        same("goto -1", word(5, 0, 0, -1, 0));
        same("gotol +2147483647", word(6, 0, 0, 0, Integer.MAX_VALUE));
        same("gotol -2147483648", word(6, 0, 0, 0, Integer.MIN_VALUE));
        same("call 0", word(0x85, 0, 0, 0, 0));
        same("call 2147483647", word(0x85, 0, 0, 0, Integer.MAX_VALUE));
        same("call +4", word(0x85, 0, 1, 0, 4));
        same("call -4", word(0x85, 0, 1, 0, -4));
        same("exit", 0x95);
    }

    private static void memory() {
        same("r1 = *(u8 *)(r2 + 0)", word(0x71, 1, 2, 0, 0));
        same("r1 = *(u16 *)(r2 - 2)", word(0x69, 1, 2, -2, 0));
        same("r1 = *(u32 *)(r10 - 32768)", word(0x61, 1, 10, -32768, 0));
        same("r1 = *(u64 *)(r2 + 32767)", word(0x79, 1, 2, 32767, 0));
        same("r1 = *(s8 *)(r2 + 1)", word(0x91, 1, 2, 1, 0));
        same("r1 = *(s16 *)(r2 + 1)", word(0x89, 1, 2, 1, 0));
        same("r1 = *(s32 *)(r2 + 1)", word(0x81, 1, 2, 1, 0));
        same("*(u8 *)(r10 - 1) = -1", word(0x72, 10, 0, -1, -1));
        same("*(u64 *)(r3 + 8) = 9", word(0x7A, 3, 0, 8, 9));
        same("*(u16 *)(r3 + 8) = r10", word(0x6B, 3, 10, 8, 0));
        same("*(u32 *)(r3 + 8) = r0", word(0x63, 3, 0, 8, 0));
        same("lock *(u64 *)(r1 + 0) += r10", word(0xDB, 1, 10, 0, 0));
        same("lock *(u32 *)(r1 + 0) |= r2", word(0xC3, 1, 2, 0, 0x40));
        same("lock *(u32 *)(r1 + 0) &= r2", word(0xC3, 1, 2, 0, 0x50));
        same("lock *(u32 *)(r1 + 0) ^= r2", word(0xC3, 1, 2, 0, 0xA0));
        same("fetch *(u64 *)(r1 + 0) += r2", word(0xDB, 1, 2, 0, 0x01));
        same("fetch *(u64 *)(r1 + 0) |= r2", word(0xDB, 1, 2, 0, 0x41));
        same("fetch *(u64 *)(r1 + 0) &= r2", word(0xDB, 1, 2, 0, 0x51));
        same("fetch *(u64 *)(r1 + 0) ^= r9", word(0xDB, 1, 9, 0, 0xA1));
        same("xchg *(u32 *)(r10 - 8) r9", word(0xC3, 10, 9, -8, 0xE1));
        same("cmpxchg *(u64 *)(r10 - 8) r10", word(0xDB, 10, 10, -8, 0xF1));
    }

    private static void pairs() {
        House.due("ll", HOUSE.assemble(0, "r1 = 81985529216486895 ll\nr9=-1 ll\nr3 = map 7"), 6);
        House.due("ll", HOUSE.house.word(0, 0), word(0x18, 1, 0, 0, 0x89ABCDEF));
        House.due("ll", HOUSE.house.word(0, 1), 0x0123456700000000L);
        House.due("ll", HOUSE.house.word(0, 3), 0xFFFFFFFF00000000L);
        House.due("map", HOUSE.house.word(0, 4), word(0x18, 3, 1, 0, 7));
        House.due("map", HOUSE.house.word(0, 5), 0);
        House.due("printed", HOUSE.printed(0), "r1 = 81985529216486895 ll\nr9 = 18446744073709551615 ll\nr3 = map 7\n");
        House.due("least ll", HOUSE.assemble(0, "r1 = -9223372036854775808 ll"), 2);
        House.due("least ll", HOUSE.printed(0), "r1 = 9223372036854775808 ll\n");
        House.due("small ll", HOUSE.assemble(0, "r1 = 5ll"), 2);
    }

    private static void freeForms() {
        String text = "\t; nothing\n\n r1=0X ; \n";
        House.due("0X is no number of that kind", HOUSE.assemble(0, text), -10 - text.indexOf('X'));
        House.due("blanks", HOUSE.assemble(0, "  r1\t=\t0x1fF;to the end $ : \n\nr1+=-0x1\n*(u32*)(r10-4)=-3;\nexit"), 4);
        House.due("blanks", HOUSE.printed(0), "r1 = 511\nr1 += -1\n*(u32 *)(r10 - 4) = -3\nexit\n");
        House.due("CONST of 32 bits", HOUSE.assemble(0, "w1 = 4294967295\nr1 = -2147483648\nr1 = 0x80000000"), 3);
        House.due("CONST of 32 bits", HOUSE.printed(0), "w1 = -1\nr1 = -2147483648\nr1 = -2147483648\n");
        House.due("the greatest ll", HOUSE.assemble(0, "r1 = 18446744073709551615 ll\nword 0xFFFFFFFFFFFFFFFF"), 3);
        House.due("the greatest ll", HOUSE.house.word(0, 2), -1);
        cutOff("r1 += 5", 4, 3);
        cutOff("r1 <<= 5", 5, 3);
        cutOff("r1 = 0x5", 7, 6);
        cutOff("r1 = 55 6", 7, 0);
        cutOff("exit", 3, 0);
        House.due("hexadecimal ends", HOUSE.assemble(0, "r1 = 0x"), -10 - 6);
        House.due("digits and a name", HOUSE.assemble(0, "r1 = 5l"), -10 - 6);
        House.due("signs are long", HOUSE.assemble(0, "r1 == 5"), -10 - 3);
        House.due("signs are not longer", HOUSE.assemble(0, "r1 > >= 5"), -10 - 3);
    }

    /** What stood on the tape behind its end does not count; this place is WRONG then (0: also that there is one word). */
    private static void cutOff(String text, int n, int place) {
        HOUSE.tapeText(text);
        HOUSE.house.cut(n);
        int answer = HOUSE.house.assemble(0);
        House.due("the first " + n + " of <" + text + ">", answer, text.contains("55") ? 1 : -10 - place);
    }

    private static void labels() {
        House.due("labels", HOUSE.assemble(0, "a: goto b\nb : if r1 > 1 goto a\nc:\n\ngotol c\ncall d\nexit\nd: exit"), 6);
        House.due("labels", HOUSE.printed(0), "goto +0\nif r1 > 1 goto -2\ngotol -1\ncall +1\nexit\nexit\n");
        House.due("words of statements", HOUSE.assemble(0, "exit: goto exit\ngoto: goto goto\ns: le16: exit"), -10 - 35);
        House.due("words of statements", HOUSE.assemble(0, "exit: goto exit\ngoto: goto goto\nmap: exit\nif: if r1 s > 1 goto map"), 4);
        House.due("words of statements", HOUSE.printed(0), "goto -1\ngoto -1\nexit\nif r1 s> 1 goto -2\n");
        House.due("a pair before", HOUSE.assemble(0, "goto e\nr1 = 1 ll\ne: exit"), 4);
        House.due("a pair before", HOUSE.printed(0), "goto +2\nr1 = 1 ll\nexit\n");
        House.due("at the end", HOUSE.assemble(0, "goto e\ne:"), 1);
        House.due("at the end", HOUSE.printed(0), "goto +0\n");
        House.due("r11 is a name", HOUSE.assemble(0, "r11: goto r11\nr01: w11: exit"), -10 - 19);
        House.due("r11 is a name", HOUSE.assemble(0, "r11: goto r11\nr01: exit\n_9: exit"), 3);
        House.due("all letters", HOUSE.assemble(0, "azAZ_09: goto azAZ_09\ngoto _\n_: exit"), 3);
        House.due("told twice", HOUSE.assemble(0, "a: exit\na: exit"), -10 - 8);
        House.due("no register", HOUSE.assemble(0, "r1: exit"), -10 - 2);
        House.due("no register", HOUSE.assemble(0, "goto w10"), -10 - 5);
        House.due("behind a label", HOUSE.assemble(0, "a: exit: exit"), -10 - 7);
        House.due("behind a label", HOUSE.assemble(0, "a: b: exit"), -10 - 3);
        House.due("not told", HOUSE.assemble(0, "goto a\ncall b\na: exit"), -10 - 12);
        House.due("not told, but wrong later", HOUSE.assemble(0, "goto a\n$"), -10 - 7);
        House.due("other letters", HOUSE.assemble(0, "goto a\nA: exit"), -10 - 5);
    }

    private static void wrong(String text, int place) {
        House.due("words before <" + text + ">", HOUSE.assemble(3, "exit"), 1);
        House.due("assemble <" + text + ">", HOUSE.assemble(3, text), -10 - place);
        House.due("words behind <" + text + ">", HOUSE.house.word(3, 0), 0x95);
    }

    private static void wrongTokens() {
        wrong("", 0);
        wrong(";c\n ", 4);
        wrong("a:", 2);
        wrong("exit exit", 5);
        wrong("exit\n:", 5);
        wrong("5", 0);
        wrong("r1", 2);
        wrong("r1 \n", 3);
        wrong("r1 =", 4);
        wrong("r1 = ;5", 7);
        wrong("r1 = 5 6", 7);
        wrong("r1 = $", 5);
        wrong("r1 = !", 5);
        wrong("r1 ! = 5", 3);
        wrong("r1 s == 5", 5);
        wrong("r1 s += 5", 5);
        wrong("r1 s>= 5", 4);
        wrong("r1 = w1", 5);
        wrong("r1 += w1", 6);
        wrong("w1 += r1", 6);
        wrong("r1 = - r2", 7);
        wrong("r1 = - w1", 7);
        wrong("r1 = - x", 7);
        wrong("r1 += - r1", 8);
        wrong("r1 = (u8) r2", 6);
        wrong("r1 = (s8 r2", 9);
        wrong("r1 = (s8) w2", 10);
        wrong("r1 = (s8) 5", 10);
        wrong("r1 = le16 r2", 10);
        wrong("r1 = le8 r1", 5);
        wrong("w1 = le16 w1", 5);
        wrong("w1 = map 1", 5);
        wrong("w1 = 5 ll", 7);
        wrong("w0 = 5 ll", 7);
        wrong("w0 = map 1", 5);
        wrong("w0 = be16 w0", 5);
        wrong("w0 = *(u8 *)(r1 + 0)", 5);
        wrong("r1 = *(u32 *)(w0 + 0)", 14);
        wrong("*(u8 *)(r1 + 0) = w0", 18);
        wrong("r0 = w0", 5);
        wrong("w0 = r0", 5);
        wrong("if w0 > r0 goto +0", 8);
        wrong("r1 = - 0x8000000000000001 ll", 7);
        wrong("r", 0);
        wrong("r1 = s", 5);
        wrong("w1 = *(u32 *)(r1 + 0)", 5);
        wrong("r1 = *(u32 *)(w1 + 0)", 14);
        wrong("r1 = *(u31 *)(r1 + 0)", 7);
        wrong("r1 = *(s64 *)(r1 + 0)", 7);
        wrong("r1 = *(u32)(r1 + 0)", 10);
        wrong("r1 = *(u32 *)(r1)", 16);
        wrong("r1 = *(u32 *)(r1 + -1)", 19);
        wrong("r1 = *(u32 *)(r1 += 1)", 17);
        wrong("*(s8 *)(r1 + 0) = 5", 2);
        wrong("*(u8 *)(r1 + 0) = w5", 18);
        wrong("*(u8 *)(r1 + 0) += r5", 16);
        wrong("lock *(s32 *)(r1 + 0) += r5", 7);
        wrong("lock *(u32 *)(r1 + 0) -= r5", 22);
        wrong("lock *(u32 *)(r1 + 0) += 5", 25);
        wrong("lock *(u32 *)(r1 + 0) += w5", 25);
        wrong("xchg *(u32 *)(r1 + 0) += r5", 22);
        wrong("if r1 = 5 goto +1", 6);
        wrong("if r1 > w1 goto +1", 8);
        wrong("if r1 > 5 gotol +1", 10);
        wrong("if r1 s & 5 goto +1", 8);
        wrong("if 5 > r1 goto +1", 3);
        wrong("goto 5", 5);
        wrong("goto", 4);
        wrong("call", 4);
        wrong("call r1", 5);
        wrong("word -1", 5);
        wrong("word x", 5);
        wrong("\r\nexit", 0);
        wrong("exit \u00e9", 5);
    }

    private static void wrongNumbers() {
        wrong("r1 = 4294967296", 5);
        wrong("r1 = -2147483649", 6);
        wrong("w1 += 4294967296", 6);
        wrong("r1 = 18446744073709551616 ll", 5);
        wrong("r1 = -9223372036854775809 ll", 6);
        wrong("r1 = 99999999999999999999999 ll", 5);
        wrong("r1 = 0x10000000000000000 ll", 5);
        wrong("r1 = map 8", 9);
        wrong("call 2147483648", 5);
        wrong("call +2147483648", 6);
        wrong("call -2147483649", 6);
        wrong("gotol +2147483648", 7);
        wrong("goto +32768", 6);
        wrong("goto -32769", 6);
        wrong("if r1 > 1 goto +32768", 16);
        wrong("r1 = *(u8 *)(r1 + 32768)", 18);
        wrong("r1 = *(u8 *)(r1 - 32769)", 18);
        wrong("word 18446744073709551616", 5);
        wrong("*(u8 *)(r1 + 0) = 4294967296", 18);
    }

    private static void wrongNames() {
        wrong("foo", 0);
        wrong("  foo exit", 2);
        wrong("exit\nmap 3", 5);
        wrong("ll", 0);
        wrong("foo\n: exit", 0);
        wrong("foo ; :", 0);
        wrong("a: foo", 3);
        wrong("a: foo: exit", 3);
        wrong("R1 = 5", 0);
    }

    private static void wrongInstructions() {
        wrong("r10 = 5", 0);
        wrong("exit\n a: r10 += 1", 9);
        wrong("r10 = 5 x", 8);
        wrong("r1 /= 0", 0);
        wrong("w1 s%= 0", 0);
        wrong("r1 <<= 64", 0);
        wrong("r1 >>= -1", 0);
        wrong("w1 s>>= 32", 0);
        wrong("w1 = (s32) w2", 0);
        wrong("r10 = (s8) r1", 0);
        wrong("r10 = - r10", 0);
        wrong("r10 = le16 r10", 0);
        wrong("r10 = 5 ll", 0);
        wrong("r10 = map 1", 0);
        wrong("r10 = *(u8 *)(r1 + 0)", 0);
        wrong("lock *(u8 *)(r1 + 0) += r2", 0);
        wrong(" fetch *(u16 *)(r1 + 0) += r2", 1);
        wrong("fetch *(u64 *)(r1 + 0) += r10", 0);
        wrong("xchg *(u64 *)(r1 + 0) r10", 0);
    }

    private static void sizes() {
        House.due("200 words", HOUSE.assemble(0, "exit\n".repeat(200)), 200);
        House.due("words", HOUSE.house.words(0), 200);
        House.due("201 words", HOUSE.assemble(0, "exit\n".repeat(200) + "a: r1 = 5"), -10 - 1003);
        House.due("words", HOUSE.house.words(0), 200);
        House.due("a pair at the end", HOUSE.assemble(0, "exit\n".repeat(198) + "r1 = 5 ll"), 200);
        House.due("a pair too many", HOUSE.assemble(0, "exit\n".repeat(199) + "r1 = 5 ll"), -10 - 995);
        House.due("a long print", HOUSE.assemble(0, "if r1 s>= -2147483648 goto -32768\n".repeat(110)), 110);
        House.due("a long print", HOUSE.house.print(0), 110 * 34);
        long[] words = new long[200];
        java.util.Arrays.fill(words, word(0x7A, 10, 0, -32768, Integer.MIN_VALUE));
        HOUSE.tapeWords(words);
        House.due("the longest print", HOUSE.house.load(0), 200);
        House.due("the longest print", HOUSE.house.print(0), 200 * "*(u64 *)(r10 - 32768) = -2147483648\n".length());
        House.due("its last byte", HOUSE.house.out(200 * 36 - 1), 10);
    }

    private static void printsAs(String text, long... words) {
        HOUSE.tapeWords(words);
        House.due("load for " + text, HOUSE.house.load(1), words.length);
        House.due("printed", HOUSE.printed(1), text);
    }

    private static void odd() {
        same("word 0x0000000000000000", 0);
        same("word 0xfedcba9876543210", 0xFEDCBA9876543210L);
        same("word 0x0000000100000095", 0x100000095L);
        long pair = word(0x18, 1, 0, 0, 5);
        printsAs("word 0x0000000500000118\n", pair);
        printsAs("word 0x0000000500000118\nexit\n", pair, 0x95);
        printsAs("r1 = 5 ll\nexit\n", pair, 0, 0x95);
        printsAs("word 0x0000000500000118\nword 0x0000000000010000\n", pair, 0x10000);
        printsAs("word 0x0000000800001118\nword 0x0000000000000000\n", word(0x18, 1, 1, 0, 8), 0);
        printsAs("word 0x0000000500001118\nword 0x0000000100000000\n", word(0x18, 1, 1, 0, 5), 0x100000000L);
        printsAs("word 0x0000000500002118\nword 0x0000000000000000\n", word(0x18, 1, 2, 0, 5), 0);
        long[] none = {word(0x07, 10, 0, 0, 1), word(0x0F, 1, 11, 0, 0), word(0x07, 1, 1, 0, 0), word(0x0F, 1, 1, 0, 1),
            word(0x07, 1, 0, 1, 1), word(0x87, 1, 0, 0, 1), word(0x8F, 1, 0, 0, 0), word(0x37, 1, 0, 2, 1), word(0xB7, 1, 0, 8, 1),
            word(0xBC, 1, 1, 32, 0), word(0xBF, 1, 1, 64, 0), word(0xD4, 1, 0, 0, 8), word(0xDF, 1, 0, 0, 16), word(0xE7, 1, 0, 0, 1),
            word(0x05, 1, 0, 1, 0), word(0x06, 0, 0, 1, 0), word(0x0D, 1, 1, 0, 0), word(0x85, 0, 0, 0, -1), word(0x85, 0, 2, 0, 1),
            word(0x95, 1, 0, 0, 0), word(0x8D, 0, 0, 0, 0), word(0x15, 11, 0, 0, 0), word(0x1D, 1, 1, 0, 1), word(0xE5, 1, 0, 0, 0),
            word(0x61, 1, 1, 0, 1), word(0x99, 1, 1, 0, 0), word(0x61, 10, 1, 0, 0), word(0x62, 1, 1, 0, 0), word(0x63, 1, 1, 0, 1),
            word(0xC3, 1, 1, 0, 2), word(0xC3, 1, 1, 0, 0xE0), word(0xCB, 1, 1, 0, 0), word(0xDB, 1, 10, 0, 1), word(0xA1, 1, 1, 0, 0),
            word(0x63, 11, 1, 0, 0), word(0x63, 1, 11, 0, 0), word(0xC3, 11, 1, 0, 0), word(0xC3, 1, 11, 0, 0), word(0x61, 1, 11, 0, 0),
            word(0x62, 11, 0, 0, 0), word(0x1D, 1, 11, 0, 0), word(0x0F, 10, 1, 0, 0), word(0x0F, 1, 1, 1, 0), word(0x15, 1, 1, 0, 0)};
        for (long w : none) {
            HOUSE.tapeWords(w);
            HOUSE.house.load(1);
            House.due("no instruction " + Long.toHexString(w), HOUSE.printed(1).startsWith("word 0x"), true);
            House.due("fault of " + Long.toHexString(w), HOUSE.house.judge(1), 1);
        }
    }

    private static void loads() {
        FilterHouse x = HOUSE.house;
        HOUSE.tapeWords(0x0123456789ABCDEFL, -1, 3);
        House.due("load", x.load(7), 3);
        House.due("words", x.words(7), 3);
        House.due("word 0", x.word(7, 0), 0x0123456789ABCDEFL);
        House.due("word 1", x.word(7, 1), -1);
        House.due("word 2", x.word(7, 2), 3);
        House.due("word 3", x.word(7, 3), 0);
        House.due("word -1", x.word(7, -1), 0);
        House.due("word of no slot", x.word(8, 0), 0);
        House.due("words of no slot", x.words(-1), 0);
        for (int n : new int[] {0, 7, 9, 1608, 1601}) {
            HOUSE.tape(new byte[n]);
            House.due("load of " + n, x.load(7), -1);
            House.due("words stay", x.words(7), 3);
        }
        HOUSE.tape(new byte[1600]);
        House.due("load of 1600", x.load(7), 200);
        HOUSE.tape(new byte[8]);
        House.due("load of no slot", x.load(8), -1);
        House.due("tape is used up", x.load(7), -1);
        HOUSE.tapeText("exit");
        House.due("assemble of no slot", x.assemble(-1), -1);
        House.due("tape is used up", x.assemble(6), -10);
        // a program that is changed is not taken; one that is refused changes nothing
        House.due("judge", HOUSE.judge(5, "r0 = 1\nexit"), 0);
        House.due("wrong", HOUSE.assemble(5, "r0"), -12);
        House.due("taken", x.taken(5), true);
        House.due("load refused", x.load(5), -1);
        House.due("taken", x.taken(5), true);
        House.due("assemble", HOUSE.assemble(5, "r0 = 1\nexit"), 2);
        House.due("taken", x.taken(5), false);
        House.due("judge", x.judge(5), 0);
        HOUSE.tapeWords(0x95);
        x.load(5);
        House.due("taken", x.taken(5), false);
    }

    private static void outs() {
        FilterHouse x = HOUSE.house;
        HOUSE.assemble(0, "exit");
        House.due("print", x.print(0), 5);
        House.due("outs", x.outs(), 5);
        House.due("out 0", x.out(0), 'e');
        House.due("out 4", x.out(4), 10);
        House.due("out 5", x.out(5), -1);
        House.due("out -1", x.out(-1), -1);
        House.due("print of no slot", x.print(8), -1);
        House.due("outs stay", x.outs(), 5);
        x.map(0, 0, 4, 2, 1);
        HOUSE.tape(0, 0, 0, 0, 200, 255);
        House.due("put", x.put(0, 0), 0);
        HOUSE.tape(0, 0, 0, 0);
        House.due("get", x.get(0), 2);
        House.due("bytes have no sign", x.out(0) * 1000 + x.out(1), 200255);
        House.due("the place of what was there", x.outs(), 2);
    }
}
