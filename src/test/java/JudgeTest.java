/** Promises 11 to 14: judge, taken, told, known; what each part of the document says of the judge. */
public final class JudgeTest {
    private static final int FORM = 1;
    private static final int PLACE = 2;
    private static final int UNSET = 3;
    private static final int KIND = 4;
    private static final int RANGE = 5;
    private static final int BYTES = 6;
    private static final int LEAK = 7;
    private static final int CALL = 8;
    private static final int CONTEXT = 9;
    private static final int HELD = 10;
    private static final int LOOP = 11;
    private static final int MUCH = 12;
    private static final int DEEP = 13;
    private static final int NULL = 14;
    private static final int MAP = 15;

    private static final String KEY = "*(u64 *)(r10 - 8) = 1\nr2 = r10\nr2 += -8\n";
    /** A cell of a ROW (8 bytes) in r0, of a TABLE (16 bytes), a record of 8 bytes. */
    private static final String CELL = KEY + "r1 = map 0\ncall 1\nif r0 != 0 goto +2\nr0 = 0\nexit\n";
    private static final String RECORD = "r1 = map 3\nr2 = 8\nr3 = 0\ncall 131\nif r0 != 0 goto +2\nr0 = 0\nexit\n";
    private static final String SPARE = "r1 = r0\nr2 = 0\ncall 133\n";
    private static final String OVER = "r0 = 0\nexit\n";

    private static House house;

    public static void main(String[] args) {
        forms();
        places();
        unset();
        kinds();
        nulls();
        ranges();
        bytes();
        leaks();
        calls();
        helperOrder();
        contexts();
        held();
        functions();
        loops();
        much();
        longest();
        covering();
        packets();
        stacks();
        settling();
        toldAndTaken();
        House.end();
    }

    private static void fresh() {
        house = new House();
        house.house.map(0, 0, 4, 8, 4);
        house.house.map(1, 1, 6, 16, 2);
        house.house.map(2, 2, 0, 0, 3);
        house.house.map(3, 3, 0, 0, 2);
    }

    /** Judged, it has this fault at this word (NONE: none). */
    private static void fault(String text, int which, int word) {
        fresh();
        House.due("judge of <" + text + ">", house.judge(0, text), which);
        House.due("taken", house.house.taken(0), which == 0);
        House.due("word of the fault of <" + text + ">", house.house.told(0), word);
        if (which != 0) {
            House.due("LONGEST with a fault", house.house.told(3), 0);
        }
    }

    private static void good(String text) {
        fault(text, 0, -1);
    }

    private static int words(String text) {
        House other = new House();
        return other.assemble(0, text);
    }

    /** The statement behind this beginning has this fault; or none, and then the program is over. */
    private static void behind(String begin, String statement, int which) {
        fault(begin + statement + "\n" + OVER, which, which == 0 ? -1 : begin.isEmpty() ? 0 : words(begin));
    }

    private static void forms() {
        fault("word 0\nexit", FORM, 0);
        fault("r0 = 0\nexit\nword 255", FORM, 2);
        fault("goto +9\nword 0", FORM, 1);
        fault("word 0x18\nexit", FORM, 0);
        fault("r0 = 0\nexit\nword 0x18", FORM, 2);
        fault("word 0x18\nword 1", FORM, 0);
        House.due("told 1", house.house.told(1) + house.house.told(2) + house.house.told(3), 0);
        House.due("told 4", house.house.told(4) + house.house.told(5), 0);
        House.due("known", house.house.known(0, 1, 0), -1);
    }

    private static void places() {
        fault("goto -2\nexit", PLACE, 0);
        fault("r0 = 0\ngoto +1\nexit", PLACE, 1);
        fault("goto +1\nr1 = 1 ll\nexit", PLACE, 0);
        fault("call +1\nr1 = 1 ll\nexit", PLACE, 0);
        fault("call +7\nexit", PLACE, 0);
        fault("gotol +2147483647\nexit", PLACE, 0);
        fault("r0 = 0", PLACE, 0);
        fault("r0 = 0\nexit\nr1 = 2 ll", PLACE, 2);
        fault("exit\nif r0 > 1 goto -2", PLACE, 1);
        fault("exit\ncall 5", PLACE, 1);
        good("r0 = 0\nexit\ngoto -2");
        good("r0 = 0\nexit\ngotol -2");
        // functions: the one at 3 begins behind an instruction that goes on
        fault("call +2\nexit\nr0 = 0\nr0 = 1\nexit", PLACE, 2);
        fault("call +2\nexit\ngoto +1\nr0 = 1\nexit", PLACE, 2);
        fault("if r1 == 0 goto +2\ncall +1\nexit\nr0 = 1\nexit", PLACE, 0);
        fault("call +1\nexit\nr0 = 1\ngoto -3\nexit", PLACE, 3);
        good("call +1\nexit\nr0 = 1\ngoto -2\nexit".replace("goto -2", "goto +0"));
        // it is a function's begin also where nothing goes
        fault("r0 = 0\nexit\ncall +0\nr0 = 1\nexit", PLACE, 2);
        // the first one counts
        fault("goto +5\nexit\nr1 = 1", PLACE, 0);
    }

    private static void unset() {
        fault("exit", UNSET, 0);
        behind("", "r0 = r2", UNSET);
        behind("", "r0 += 1", UNSET);
        behind("r0 = 1\n", "r0 += r2", UNSET);
        behind("", "r2 += r1", UNSET);
        behind("", "r3 = - r3", UNSET);
        behind("", "r3 = be16 r3", UNSET);
        behind("", "w3 = w4", UNSET);
        behind("", "r3 = (s8) r4", UNSET);
        behind("", "r3 = *(u8 *)(r4 + 0)", UNSET);
        behind("", "*(u8 *)(r4 + 0) = 1", UNSET);
        behind("", "*(u64 *)(r10 + 8) = r4", UNSET);
        behind("r3 = 1\n", "lock *(u64 *)(r4 + 0) += r3", UNSET);
        behind("", "lock *(u64 *)(r1 + 0) += r3", UNSET);
        behind("r3 = 1\n", "cmpxchg *(u64 *)(r10 - 8) r3", UNSET);
        behind("", "if r3 > 1 goto +0", UNSET);
        behind("r3 = 1\n", "if r3 > r4 goto +0", UNSET);
        behind("r2 = 1\ncall 5\nr2 = 1\n", "call 6", UNSET);
        behind("", "call 6", UNSET);
        behind("call 5\n", "r3 = r1", UNSET);
        good("r3 = 7\nr6 = r3\ncall 5\nr0 = r6\nexit");
    }

    private static void kinds() {
        behind("", "r1 *= 2", KIND);
        behind("", "w3 = w1", KIND);
        behind("", "r3 = (s8) r1", KIND);
        behind("", "r1 = be16 r1", KIND);
        behind("", "r1 = - r1", KIND);
        behind("", "r1 += 1", KIND);
        behind("r2 = r10\n", "w2 += 1", KIND);
        behind("r2 = r10\n", "r2 -= r10", KIND);
        behind("r2 = r10\n", "r2 += r10", KIND);
        behind("r2 = 8\n", "r2 -= r10", KIND);
        behind("r2 = -8\n", "r2 += r10", 0);
        behind("r2 = r10\nr3 = *(u32 *)(r1 + 8)\n", "r2 += r3", KIND);
        behind("r2 = *(u32 *)(r1 + 0)\nr3 = *(u32 *)(r1 + 8)\n", "r2 -= r3", KIND);
        behind("r3 = 5\n", "r2 = *(u8 *)(r3 + 0)", KIND);
        behind("r3 = map 0\n", "*(u8 *)(r3 + 0) = 1", KIND);
        behind("r3 = *(u32 *)(r1 + 4)\n", "r2 = *(u8 *)(r3 + 0)", KIND);
        behind("r3 = *(u32 *)(r1 + 0)\nr2 = 1\n", "lock *(u64 *)(r3 + 0) += r2", KIND);
        behind("r2 = 1\n", "lock *(u32 *)(r1 + 12) += r2", KIND);
        behind("r3 = 1\n", "if r3 == r1 goto +0", KIND);
        behind("", "if r1 == 5 goto +0", KIND);
        behind("", "if w1 == 0 goto +0", KIND);
        behind("", "if r1 > 0 goto +0", KIND);
        behind("", "if r10 > r10 goto +0", KIND);
        behind("r2 = *(u32 *)(r1 + 0)\nr3 = *(u32 *)(r1 + 4)\n", "if r2 == r3 goto +0", KIND);
        behind("r2 = *(u32 *)(r1 + 0)\nr3 = *(u32 *)(r1 + 4)\n", "if w2 > w3 goto +0", KIND);
        behind("r2 = *(u32 *)(r1 + 0)\nr3 = *(u32 *)(r1 + 4)\n", "if r2 s> r3 goto +0", KIND);
        behind("r2 = *(u32 *)(r1 + 0)\n", "if r2 > r2 goto +0", KIND);
        // pointers are not 0
        good("if r1 == 0 goto +2\nr0 = 0\nexit\nr0 = r5\nexit");
        good("if r10 != 0 goto +1\nr0 = r5\nr0 = 0\nexit");
    }

    private static void nulls() {
        String open = KEY + "r1 = map 0\ncall 1\n";
        behind(open, "r3 = *(u64 *)(r0 + 0)", NULL);
        behind(open, "*(u64 *)(r0 + 0) = 1", NULL);
        behind(open, "r0 += 1", NULL);
        behind(open, "r0 = - r0", NULL);
        behind(open + "r3 = 1\n", "r3 += r0", NULL);
        behind(open + "r3 = r10\n", "r3 += r0", NULL);
        behind(open + "r3 = 1\n", "lock *(u64 *)(r0 + 0) += r3", NULL);
        behind(open, "if r0 == 5 goto +0", NULL);
        behind(open, "if w0 == 0 goto +0", NULL);
        behind(open, "if r0 > 0 goto +0", NULL);
        behind(open + "r3 = 0\n", "if r0 == r3 goto +0", NULL);
        behind(open + "r1 = map 0\nr2 = r0\n", "call 1", NULL);
        behind(open + "r1 = r0\nr2 = r10\n", "call 1", NULL);
        // a whole part of the stack may be one; of what else is given out, it is a LEAK
        behind(open, "*(u64 *)(r10 - 16) = r0", 0);
        behind(open + "r3 = r10\n", "*(u32 *)(r3 - 16) = r0", LEAK);
        fault(open + "exit", LEAK, words(open));
        behind(open, "r6 = r0", 0);
    }

    private static void ranges() {
        behind("r2 = r10\n", "r2 += 4096", 0);
        behind("r2 = r10\n", "r2 += 4097", RANGE);
        behind("r2 = r10\n", "r2 -= 4096", 0);
        behind("r2 = r10\n", "r2 -= 4097", RANGE);
        behind("r2 = r10\nr3 = -9223372036854775808 ll\n", "r2 -= r3", RANGE);
        behind("r2 = r10\nr3 = -9223372036854775808 ll\n", "r2 += r3", RANGE);
        behind("r2 = r10\nr2 += 4096\nr2 += -8192\n", "r2 += -1", RANGE);
        behind("", "*(u8 *)(r10 - 128) = 1", 0);
        behind("", "*(u8 *)(r10 - 129) = 1", RANGE);
        behind("", "*(u8 *)(r10 + 0) = 1", RANGE);
        behind("", "*(u64 *)(r10 - 7) = 1", RANGE);
        behind("", "*(u64 *)(r10 - 128) = 1", 0);
        behind("r2 = r10\nr2 += 4000\n", "*(u8 *)(r2 - 4008) = 1", 0);
        behind("r3 = 1\n", "lock *(u64 *)(r10 - 7) += r3", RANGE);
        behind("r3 = 1\n", "fetch *(u32 *)(r10 + 0) += r3", RANGE);
        behind("r3 = 1\n*(u64 *)(r10 - 128) = 1\n", "xchg *(u64 *)(r10 - 128) r3", 0);
        behind("r3 = 1\n", "xchg *(u64 *)(r10 - 129) r3", RANGE);
        behind(CELL + "r3 = 1\n", "lock *(u64 *)(r0 + 0) += r3", 0);
        behind(CELL + "r3 = 1\n", "lock *(u64 *)(r0 + 1) += r3", RANGE);
        behind(CELL + "r3 = 1\n", "lock *(u32 *)(r0 + 4) += r3", 0);
        behind(CELL + "r3 = r10\n", "lock *(u32 *)(r0 + 5) += r3", RANGE);
        behind(CELL, "*(u64 *)(r0 + 0) = 1", 0);
        behind(CELL, "*(u64 *)(r0 + 1) = 1", RANGE);
        behind(CELL, "*(u8 *)(r0 - 1) = 1", RANGE);
        behind(CELL, "r3 = *(u8 *)(r0 + 7)", 0);
        behind(CELL, "r3 = *(u16 *)(r0 + 7)", RANGE);
        behind(CELL + "r3 = *(u64 *)(r0 + 0)\nr3 &= 3\nr0 += r3\n", "r4 = *(u32 *)(r0 + 1)", 0);
        behind(CELL + "r3 = *(u64 *)(r0 + 0)\nr3 &= 3\nr0 += r3\n", "r4 = *(u32 *)(r0 + 2)", RANGE);
        behind(CELL + "r3 = *(u64 *)(r0 + 0)\nr3 &= 3\nr3 += 1\nr0 += r3\n", "r4 = *(u32 *)(r0 - 1)", 0);
        behind(CELL + "r3 = *(u64 *)(r0 + 0)\nr3 &= 3\nr3 += 1\nr0 += r3\n", "r4 = *(u8 *)(r0 - 2)", RANGE);
        behind(CELL + "r3 = *(u32 *)(r0 + 0)\nr3 &= 65535\n", "r0 += r3", 0);
        behind(CELL + "r3 = *(u32 *)(r0 + 0)\nr3 &= 131071\n", "r0 += r3", RANGE);
        behind(CELL + "r3 = *(u32 *)(r0 + 0)\nr3 &= 65535\n", "r3 += r0", 0);
        behind(CELL + "r3 = *(u32 *)(r0 + 0)\nr3 &= 65535\nr0 += r3\nr3 = *(u32 *)(r10 - 8)\nr3 &= 1\n", "r0 += r3", RANGE);
        behind(RECORD, "*(u64 *)(r0 + 1) = 1", RANGE);
        fault(RECORD + "*(u64 *)(r0 + 0) = 1\n" + SPARE + OVER, 0, -1);
        behind("r2 = *(u32 *)(r1 + 0)\n", "r3 = *(u8 *)(r2 + 0)", RANGE);
        behind("r2 = *(u32 *)(r1 + 0)\n", "*(u8 *)(r2 + 0) = 0", RANGE);
    }

    private static void bytes() {
        behind("", "r3 = *(u8 *)(r10 - 1)", BYTES);
        behind("*(u32 *)(r10 - 4) = 1\n", "r3 = *(u32 *)(r10 - 4)", 0);
        behind("*(u32 *)(r10 - 4) = 1\n", "r3 = *(u32 *)(r10 - 5)", BYTES);
        behind("*(u32 *)(r10 - 4) = 1\n", "r3 = *(u64 *)(r10 - 8)", BYTES);
        behind("*(u32 *)(r10 - 4) = 1\n*(u32 *)(r10 - 8) = 1\n", "r3 = *(u64 *)(r10 - 8)", 0);
        behind("*(u64 *)(r10 - 8) = 1\n*(u64 *)(r10 - 16) = 1\n", "r3 = *(u64 *)(r10 - 12)", 0);
        behind("*(u64 *)(r10 - 8) = r1\n", "r3 = *(u64 *)(r10 - 8)", 0);
        behind("*(u64 *)(r10 - 8) = r1\n", "r3 = *(u8 *)(r10 - 1)", BYTES);
        behind("*(u64 *)(r10 - 8) = r1\n*(u8 *)(r10 - 1) = 1\n", "r3 = *(u8 *)(r10 - 1)", 0);
        behind("*(u64 *)(r10 - 8) = r1\n*(u8 *)(r10 - 1) = 1\n", "r3 = *(u8 *)(r10 - 2)", BYTES);
        behind("*(u64 *)(r10 - 8) = 5\n*(u8 *)(r10 - 1) = 1\n", "r3 = *(u64 *)(r10 - 8)", 0);
        behind("r3 = 1\n", "lock *(u64 *)(r10 - 8) += r3", BYTES);
        behind("r3 = 1\n*(u64 *)(r10 - 8) = r1\n", "lock *(u64 *)(r10 - 8) += r3", BYTES);
        behind("r3 = 1\n*(u64 *)(r10 - 8) = 1\n", "lock *(u64 *)(r10 - 8) += r3", 0);
        behind("r3 = r10\n*(u32 *)(r10 - 8) = 1\n", "lock *(u64 *)(r10 - 8) += r3", BYTES);
        behind("r2 = r10\nr2 += -8\nr1 = map 0\n", "call 1", BYTES);
        behind("*(u32 *)(r10 - 8) = 1\nr2 = r10\nr2 += -8\nr1 = map 0\n", "call 1", 0);
        behind("*(u32 *)(r10 - 8) = 1\nr2 = r10\nr2 += -8\nr1 = map 1\n", "call 1", BYTES);
        behind("*(u32 *)(r10 - 4) = 1\nr2 = r10\nr2 += -4\nr1 = map 1\n", "call 1", RANGE);
    }

    private static void leaks() {
        fault("r0 = r10\nexit", LEAK, 1);
        fault("r0 = map 0\nexit", LEAK, 2);
        behind("", "*(u32 *)(r1 + 12) = r1", LEAK);
        behind("", "*(u32 *)(r10 - 8) = r1", LEAK);
        behind("", "*(u64 *)(r10 - 12) = r1", LEAK);
        behind("", "*(u64 *)(r10 - 16) = r1", 0);
        behind("", "*(u64 *)(r10 - 16) = r10", 0);
        behind(CELL, "*(u64 *)(r0 + 0) = r10", LEAK);
        behind(CELL, "*(u64 *)(r0 + 0) = r0", LEAK);
        behind(RECORD, "*(u64 *)(r0 + 0) = r10", LEAK);
        behind(CELL, "lock *(u64 *)(r0 + 0) += r10", LEAK);
        behind(CELL + "r3 = r0\nr4 = 1\n", "cmpxchg *(u64 *)(r3 + 0) r4", LEAK);
        behind(CELL + "r3 = r0\nr0 = 1\n", "cmpxchg *(u64 *)(r3 + 0) r3", LEAK);
        behind("r2 = *(u32 *)(r1 + 0)\nr3 = *(u32 *)(r1 + 4)\nr4 = r2\nr4 += 8\nif r4 > r3 goto +1\n",
                "*(u64 *)(r2 + 0) = r3", LEAK);
        // out of a function; a stack's place to a lesser frame
        fault("call +2\nr0 = 0\nexit\nr0 = r10\nexit", LEAK, 4);
        fault("r1 = r10\ncall +2\nr0 = 0\nexit\n*(u64 *)(r1 - 8) = r10\nr0 = 0\nexit", LEAK, 4);
        good("r1 = r10\ncall +2\nr0 = 0\nexit\n*(u64 *)(r1 - 8) = r1\n*(u64 *)(r10 - 8) = r1\n*(u64 *)(r10 - 16) = r10\nr0 = 0\nexit");
    }

    private static void calls() {
        for (int helper : new int[] {0, 4, 8, 11, 13, 25, 43, 130, 134, 2147483647}) {
            behind("", "call " + helper, CALL);
        }
        behind("r1 = 5\n", "call 1", CALL);
        behind("r1 = map 2\n", "call 1", CALL);
        behind("r1 = map 3\n", "call 3", CALL);
        behind("r1 = map 0\nr2 = 5\n", "call 1", CALL);
        behind(KEY + "r1 = map 0\nr3 = r10\nr3 += -8\nr4 = r10\n", "call 2", CALL);
        behind(KEY + "r1 = map 0\nr3 = r10\nr3 += -8\nr4 = 9\n", "call 2", 0);
        behind(KEY + "r1 = map 0\nr3 = 1\nr4 = r10\n", "call 2", CALL);
        behind(KEY + "r1 = r2\nr2 = r10\n", "call 6", CALL);
        behind(KEY + "r1 = r2\nr2 = 0\n", "call 6", CALL);
        behind(KEY + "r1 = r2\nr2 = 65\n", "call 6", CALL);
        behind(KEY + "r1 = r2\nr2 = 8\n", "call 6", 0);
        behind(KEY + "r1 = r2\nr2 = 9\n", "call 6", RANGE);
        behind(KEY + "r2 = 8\n", "call 6", CALL);
        behind(KEY + "r2 = *(u32 *)(r1 + 8)\nr2 &= 7\nr2 += 1\nr1 = r10\nr1 += -8\n", "call 6", 0);
        behind("", "call 7", 0);
        behind("r2 = map 1\nr3 = 0\n", "call 12", CALL);
        behind("r2 = map 2\nr3 = r10\n", "call 12", CALL);
        behind("r2 = map 2\nr3 = 0\n", "call 12", 0);
        behind("r2 = 0\nr4 = 8\nr3 = 7\n", "call 26", CALL);
        behind("r2 = 0\nr3 = r10\nr3 += -8\nr4 = 0\n", "call 26", CALL);
        behind("r2 = 0\nr3 = r10\nr3 += -8\nr4 = 129\n", "call 26", CALL);
        behind("r2 = 0\nr3 = r10\nr3 += -8\nr4 = 9\n", "call 26", RANGE);
        behind("r2 = 0\nr3 = r10\nr3 += -8\nr4 = 8\n", "call 26", 0);
        behind("r2 = 0\nr3 = r10\nr3 += -128\nr4 = 128\n", "call 26", 0);
        behind("r2 = r10\n", "call 44", CALL);
        behind("r2 = 5\n", "call 44", 0);
        behind("r2 = 5\nr1 = 5\n", "call 44", CALL);
        for (int n : new int[] {0, 65, -1}) {
            behind("r1 = map 3\nr2 = " + n + "\nr3 = 0\n", "call 131", CALL);
        }
        behind("r2 = *(u32 *)(r1 + 8)\nr1 = map 3\nr3 = 0\n", "call 131", CALL);
        behind("r1 = map 3\nr2 = 8\nr3 = r10\n", "call 131", CALL);
        behind("r1 = map 1\nr2 = 8\nr3 = 0\n", "call 131", CALL);
        behind(RECORD + "r1 = r0\nr2 = r10\n", "call 132", CALL);
        behind(RECORD + "r1 = r0\nr1 += 1\nr2 = 0\n", "call 132", CALL);
        behind(RECORD + "r1 = r0\nr1 += 1\nr1 += -1\nr2 = 0\n", "call 132", 0);
        behind("r6 = r1\n" + RECORD + "r1 = r0\nr2 = *(u32 *)(r6 + 8)\nr2 &= 1\nr1 += r2\n", "call 133", CALL);
        behind("r1 = map 3\nr2 = 8\nr3 = 0\ncall 131\nr1 = r0\nr2 = 0\n", "call 133", NULL);
        fault("r1 = map 7\nexit", MAP, 0);
        fault("call +2\nr0 = 0\nexit\nr2 = map 2\nr3 = 0\ncall 12\nr0 = 0\nexit", CALL, 6);
    }

    /** The arguments in the order in which they are looked at. */
    private static void helperOrder() {
        behind("r1 = 5\nr2 = r10\n", "call 6", CALL);
        behind("r2 = 5\ncall 5\nr2 = r10\n", "call 6", CALL);
        behind("r2 = 70\ncall 5\nr2 = 70\n", "call 6", CALL);
        behind("r2 = 7\ncall 5\nr2 = 7\n", "call 6", UNSET);
        // 26: r4 ahead of r3
        behind("r2 = 0\nr4 = 500\n", "call 26", CALL);
        behind("r2 = 0\nr4 = 5\n", "call 26", UNSET);
        behind("r2 = r10\nr4 = 500\n", "call 26", CALL);
        behind("r4 = 500\n", "call 26", UNSET);
        // bytes of r2 ahead of r3's being unset
        behind("r2 = r10\nr2 += -8\nr1 = map 0\n", "call 2", BYTES);
        behind(KEY + "r1 = map 0\n", "call 2", UNSET);
        // in order: the third argument is wrong, the second is outside
        behind("r2 = r10\nr3 = 1\nr4 = 1\nr1 = map 0\n", "call 2", RANGE);
    }

    private static void contexts() {
        for (int off : new int[] {0, 4, 8, 12, 16}) {
            behind("", "r2 = *(u32 *)(r1 + " + off + ")", 0);
        }
        behind("", "r2 = *(u32 *)(r1 + 20)", CONTEXT);
        behind("", "r2 = *(u32 *)(r1 - 4)", CONTEXT);
        behind("", "r2 = *(u32 *)(r1 + 2)", CONTEXT);
        behind("", "r2 = *(s32 *)(r1 + 8)", CONTEXT);
        behind("", "r2 = *(u16 *)(r1 + 8)", CONTEXT);
        behind("", "r2 = *(u64 *)(r1 + 8)", CONTEXT);
        behind("", "*(u32 *)(r1 + 12) = 5", 0);
        behind("r2 = 1\n", "*(u32 *)(r1 + 12) = r2", 0);
        behind("", "*(u32 *)(r1 + 16) = 5", CONTEXT);
        behind("", "*(u64 *)(r1 + 12) = 5", CONTEXT);
        behind("", "*(u16 *)(r1 + 12) = 5", CONTEXT);
        behind("", "*(u32 *)(r1 + 8) = r1", CONTEXT);
    }

    private static void held() {
        fault(RECORD + OVER, HELD, words(RECORD) + 1);
        good(RECORD + SPARE + OVER);
        good(RECORD + "*(u64 *)(r10 - 8) = r0\n" + SPARE + OVER);
        fault(RECORD + "*(u64 *)(r10 - 8) = r0\n" + SPARE + "r3 = *(u64 *)(r10 - 8)\n" + OVER, BYTES,
                words(RECORD) + 4);
        fault(RECORD + "r6 = r0\n" + SPARE + "r3 = r6\n" + OVER, UNSET, words(RECORD) + 4);
        fault(RECORD + "r1 = r0\nr2 = 0\ncall 132\n" + "r0 = r10\nexit\n", LEAK, words(RECORD) + 4);
        fault("r6 = r1\n" + RECORD + "r1 = r6\nr2 = map 2\nr3 = 0\ncall 12\n" + OVER, HELD, words(RECORD) + 5);
        // it is held while it is not known whether it is 0
        fault("r1 = map 3\nr2 = 8\nr3 = 0\ncall 131\n" + OVER, HELD, 6);
        // two of them
        fault(RECORD + "r6 = r0\n" + RECORD + SPARE + OVER, HELD, words(RECORD) * 2);
        String two = RECORD + "r6 = r0\nr1 = map 3\nr2 = 8\nr3 = 0\ncall 131\nif r0 == 0 goto +3\n" + SPARE + "r1 = r6\nr2 = 0\ncall 133\n" + OVER;
        good(two);
        // a function may hold one, and give it on its own stack's way back only by its caller's
        fault("call +2\nr0 = 0\nexit\n" + RECORD + OVER, HELD, 2);
        good("r1 = r10\ncall +2\nr0 = 0\nexit\nr6 = r1\n" + RECORD + "*(u64 *)(r6 - 8) = r0\n" + SPARE + OVER);
    }

    private static void functions() {
        fault("call +2\nr0 += r1\nexit\nr0 = 1\nexit", UNSET, 1);
        good("r6 = 5\nr1 = 2\ncall +2\nr0 += r6\nexit\nr0 = r1\nr6 = 7\nexit");
        fault("r6 = 5\ncall +2\nr0 += r6\nexit\nr0 = r6\nexit", UNSET, 4);
        fault("r0 = 5\ncall +1\nexit\nexit", UNSET, 3);
        fault("*(u64 *)(r10 - 8) = 1\ncall +1\nexit\nr0 = *(u64 *)(r10 - 8)\nexit", BYTES, 3);
        fault("call +1\nexit\ncall -1\nexit", DEEP, 2);
        House.due("most frames", house.house.told(5), 4);
        good("call +1\nexit\ncall +1\nexit\ncall +1\nexit\nr0 = 1\nexit");
        House.due("most frames", house.house.told(5), 4);
        fault("call +1\nexit\ncall +1\nexit\ncall +1\nexit\ncall +1\nexit\nr0 = 1\nexit", DEEP, 6);
        // known is of the uppermost frame
        good("r1 = 3\nr7 = 9\ncall +1\nexit\nr0 = r1\nexit");
        House.due("r1 there", house.house.known(4, 1, 1), 3);
        House.due("r7 there", house.house.known(4, 7, 0), 0);
        House.due("r7 back", house.house.known(3, 7, 1), 9);
        House.due("r1 back", house.house.known(3, 1, 0), 0);
        House.due("r0 back", house.house.known(3, 0, 1), 3);
        good("r1 = r10\ncall +2\nr0 = 0\nexit\nr2 = r10\nr0 = 0\nexit");
        House.due("frame of r1", house.house.known(5, 1, 8), 0);
        House.due("frame of r2", house.house.known(5, 2, 8), 1);
        House.due("kind of r2", house.house.known(5, 2, 0), 3);
    }

    private static void loops() {
        fault("r0 = 0\nL: goto L\nexit", LOOP, 1);
        House.due("gone", house.house.told(1), 2);
        fault("r0 = 0\nL: call 7\nif r0 > 5 goto L\nexit", LOOP, 1);
        good("r0 = 0\nL: r0 += 1\nif r0 < 5 goto L\nexit");
        House.due("kept", house.house.told(2), 6);
        // a JOIN at 0 has the first state
        fault("goto -1\nexit", LOOP, 0);
        House.due("kept", house.house.told(2), 1);
        // the loop's counter on the stack
        good("*(u64 *)(r10 - 8) = 0\nL: r1 = *(u64 *)(r10 - 8)\nr1 += 1\n*(u64 *)(r10 - 8) = r1\nif r1 < 6 goto L\nr0 = 0\nexit");
        fault("*(u32 *)(r10 - 8) = 0\nL: r1 = *(u32 *)(r10 - 8)\nr1 += 1\n*(u32 *)(r10 - 8) = r1\nif r1 < 6 goto L\nr0 = 0\nexit", LOOP, 1);
    }

    private static void much() {
        fault("r6 = 0\nL: r6 += 1\nif r6 < 249 goto L\nr0 = 0\nexit", 0, -1);
        House.due("kept", house.house.told(2), 250);
        fault("r6 = 0\nL: r6 += 1\nif r6 < 250 goto L\nr0 = 0\nexit", MUCH, 1);
        House.due("kept", house.house.told(2), 250);
        House.due("gone", house.house.told(1), 499);
        // 4000 instructions: 19 in a loop of 210 turns, and some
        String body = "r0 = 1\n".repeat(17);
        good("r6 = 0\nL: " + body + "r6 += 1\nif r6 < 210 goto L\n" + "r0 = 1\n".repeat(8) + "exit");
        House.due("gone", house.house.told(1), 1 + 19 * 210 + 9);
        House.due("LONGEST", house.house.told(3), 4000);
        fault("r6 = 0\nL: " + body + "r6 += 1\nif r6 < 210 goto L\n" + "r0 = 1\n".repeat(9) + "exit", MUCH, 29);
        House.due("gone", house.house.told(1), 4000);
        House.due("known where it was not gone", house.house.known(29, 0, 0), -1);
        House.due("known ahead of it", house.house.known(28, 6, 1), 210);
        // ways that wait
        String jumps = "r0 = *(u32 *)(r1 + 8)\n";
        good(jumps + "if r0 == 7 goto +0\n".repeat(0) + wait(60) + "exit\nexit");
        House.due("waited", house.house.told(4), 60);
        fault(jumps + wait(61) + "exit\nexit", MUCH, 61);
        House.due("waited", house.house.told(4), 60);
        House.due("known with a fault", house.house.known(61, 0, 0), 1);
        // records held: 64 of 8 bytes in a loop do not LOOP, the 65th is too many
        String hold = "r6 = 0\nL: r1 = map 3\nr2 = 8\nr3 = 0\ncall 131\nr6 += 1\nif r6 < %d goto L\nr0 = 0\nexit";
        fault(hold.formatted(64), HELD, 9);
        fault(hold.formatted(65), MUCH, 5);
        House.due("gone", house.house.told(1), 1 + 64 * 6 + 4);
    }

    /** So many jumps to the end, each for another bit. */
    private static String wait(int n) {
        StringBuilder text = new StringBuilder();
        for (int i = 0; i < n; i++) {
            text.append("if r0 == ").append(1000 + 3 * i).append(" goto +").append(n - i).append('\n');
        }
        return text.toString();
    }

    private static void longest() {
        good("r0 = *(u32 *)(r1 + 8)\nif r0 > 5 goto +3\nr0 = 1\nr0 = 2\nr0 = 3\nexit");
        House.due("LONGEST", house.house.told(3), 6);
        House.due("gone", house.house.told(1), 7);
        // the waiting way is the longer one
        good("r0 = *(u32 *)(r1 + 8)\nif r0 > 5 goto +1\nexit\nr0 = 1\nr0 = 2\nr0 = 3\nexit");
        House.due("LONGEST", house.house.told(3), 6);
        // the covering one's is put behind
        good("r0 = *(u32 *)(r1 + 8)\nr2 = 0\nif r0 > 5 goto +3\nr2 = 0\nr0 = 1\ngoto +3\nr2 = 0\nr0 = 1\nr2 = 0\nr0 = 2\nexit");
        House.due("gone", house.house.told(1), 11);
        House.due("kept", house.house.told(2), 3);
        House.due("LONGEST", house.house.told(3), 8);
    }

    private static void covering() {
        // what is kept has less known: the second way ends
        String two = "r2 = *(u32 *)(r1 + 8)\nif r2 == 9 goto +2\n%s\ngoto +1\n%s\nr0 = 0\nexit";
        covers(two, "r3 = r2", "r3 = 5", true);
        covers(two, "r3 = 5", "r3 = r2", false);
        covers(two, "r3 = 5", "r3 = 5", true);
        covers(two, "r3 = 5", "r3 = 6", false);
        covers(two, "r4 = 5", "r3 = 5", false);
        covers(two, "r1 = r1", "r3 = 5", true);
        covers(two, "r3 = r10", "r3 = r1", false);
        covers(two, "r3 = r10", "r3 = r10", true);
        covers(two, "r3 = map 0", "r3 = map 1", false);
        covers(two, "*(u32 *)(r10 - 8) = 1", "*(u64 *)(r10 - 8) = 1", true);
        covers(two, "*(u32 *)(r10 - 8) = 1", "*(u64 *)(r10 - 8) = r1", false);
        covers(two, "*(u64 *)(r10 - 8) = 1", "*(u32 *)(r10 - 8) = 1", false);
        covers(two, "r4 = r4", "*(u64 *)(r10 - 8) = r1", true);
        covers(two, "*(u64 *)(r10 - 8) = 1", "*(u64 *)(r10 - 8) = 1", true);
        covers(two, "*(u16 *)(r10 - 8) = 1", "*(u32 *)(r10 - 8) = 1", true);
        covers(two, "*(u16 *)(r10 - 6) = 1", "*(u16 *)(r10 - 8) = 1", false);
    }

    /** Whether the state behind the first choice covers that behind the second one. */
    private static void covers(String text, String first, String second, boolean so) {
        fresh();
        String choice = text.formatted(first.equals("r4 = r4") || first.equals("r1 = r1") ? "goto +0" : first, second);
        // words of pairs move what stands behind
        choice = choice.replace("goto +2\n", second.isEmpty() ? "" : "goto " + (first.contains("map") ? "+3" : "+2") + "\n");
        choice = choice.replace("\ngoto +1\n", "\ngoto " + (second.contains("map") ? "+2" : "+1") + "\n");
        House.due("judge of " + choice, house.judge(0, choice), 0);
        int all = 8 - (first.equals("x") ? 1 : 0);
        House.due("gone in " + choice, house.house.told(1), so ? all - 1 : all + 1);
    }

    private static void packets() {
        String begin = "r2 = *(u32 *)(r1 + 0)\nr3 = *(u32 *)(r1 + 4)\nr4 = r2\nr4 += 14\n";
        String[] tests = {"if r4 > r3 goto +2", "if r3 < r4 goto +2", "if r4 >= r3 goto +2", "if r3 <= r4 goto +2"};
        int[] reach = {14, 14, 15, 15};
        for (int i = 0; i < tests.length; i++) {
            good(begin + tests[i] + "\nr0 = 0\nexit\nr0 = 0\nexit");
            House.due("reach behind " + tests[i], house.house.known(5, 2, 9), reach[i]);
            House.due("reach of r4 behind " + tests[i], house.house.known(5, 4, 9), reach[i]);
            House.due("off of r4", house.house.known(5, 4, 7), 14);
            House.due("reach elsewhere", house.house.known(7, 2, 9), 0);
        }
        String[] turned = {"if r4 <= r3 goto +2", "if r3 >= r4 goto +2", "if r4 < r3 goto +2", "if r3 > r4 goto +2"};
        for (int i = 0; i < turned.length; i++) {
            good(begin + turned[i] + "\nr0 = 0\nexit\nr0 = 0\nexit");
            House.due("reach behind " + turned[i], house.house.known(7, 2, 9), reach[i]);
            House.due("reach elsewhere", house.house.known(5, 2, 9), 0);
        }
        behind(begin + "if r4 > r3 goto +1\n", "r0 = *(u8 *)(r2 + 13)", 0);
        behind(begin + "if r4 > r3 goto +1\n", "r0 = *(u8 *)(r2 + 14)", RANGE);
        behind(begin + "if r4 >= r3 goto +1\n", "r0 = *(u8 *)(r2 + 14)", 0);
        behind(begin + "if r4 > r3 goto +1\n", "r0 = *(u8 *)(r2 - 1)", RANGE);
        behind(begin + "if r4 > r3 goto +1\n", "r0 = *(u8 *)(r4 - 14)", 0);
        // a part has a tag of its own, and its reach
        String part = begin + "if r4 <= r3 goto +2\nr0 = 0\nexit\nr5 = *(u8 *)(r2 + 0)\nr5 &= 15\nr2 += r5\n";
        behind(part, "r0 = *(u8 *)(r2 + 0)", RANGE);
        behind(part, "r0 = *(u8 *)(r4 - 1)", 0);
        String more = part + "r5 = r2\nr5 += 4\nif r5 > r3 goto +1\n";
        behind(more, "r0 = *(u32 *)(r2 + 0)", 0);
        behind(more, "r0 = *(u32 *)(r2 + 1)", RANGE);
        good(more + "r0 = 0\nr0 = 1\nexit");
        int at = words(more);
        House.due("part V", house.house.known(at, 2, 1), 0);
        House.due("part M", house.house.known(at, 2, 2), 15);
        House.due("part U2", house.house.known(at, 2, 4), 15);
        House.due("part S2", house.house.known(at, 2, 6), 15);
        House.due("part reach", house.house.known(at, 2, 9), 4);
        // the way of the packet unsets what told its place
        String moved = "r6 = *(u32 *)(r1 + 0)\n*(u64 *)(r10 - 8) = r6\nr7 = *(u32 *)(r1 + 4)\nr8 = r1\nr2 = 4\ncall 44\n";
        behind(moved, "r2 = r6", UNSET);
        behind(moved, "r2 = r7", UNSET);
        behind(moved, "r2 = *(u64 *)(r10 - 8)", BYTES);
        behind(moved, "r2 = *(u32 *)(r8 + 0)", 0);
    }

    private static void stacks() {
        // a whole part keeps what is known
        good("r3 = 77\n*(u64 *)(r10 - 8) = r3\nr4 = *(u64 *)(r10 - 8)\nr5 = *(u32 *)(r10 - 8)\nr2 = *(s8 *)(r10 - 8)\nr0 = 0\nexit");
        House.due("r4", house.house.known(5, 4, 1), 77);
        House.due("r5 V", house.house.known(5, 5, 1), 0);
        House.due("r5 U2", house.house.known(5, 5, 4), 0xFFFFFFFFL);
        House.due("r2 S1", house.house.known(5, 2, 5), -128);
        House.due("r2 S2", house.house.known(5, 2, 6), 127);
        House.due("r2 M", house.house.known(5, 2, 2), -1);
        House.due("r2 U2", house.house.known(5, 2, 4), -1);
        good("*(u64 *)(r10 - 8) = -3\nr4 = *(u64 *)(r10 - 8)\nr0 = 0\nexit");
        House.due("IMM's number", house.house.known(2, 4, 1), -3);
        // an exchange makes bytes of it
        good("r3 = 77\n*(u64 *)(r10 - 8) = r3\nfetch *(u64 *)(r10 - 8) += r3\nr4 = *(u64 *)(r10 - 8)\nr0 = 0\nexit");
        House.due("r3", house.house.known(4, 3, 2), -1);
        House.due("r4", house.house.known(4, 4, 2), -1);
        good("r3 = 77\nr0 = 1\n*(u64 *)(r10 - 8) = r3\ncmpxchg *(u32 *)(r10 - 8) r3\nr4 = 0\nexit");
        House.due("r0", house.house.known(4, 0, 4), 0xFFFFFFFFL);
        House.due("r3", house.house.known(4, 3, 1), 77);
        // 26 sets the bytes that are sure
        String read = "*(u64 *)(r10 - 16) = r1\n*(u64 *)(r10 - 24) = 5\nr4 = *(u32 *)(r1 + 8)\nr4 &= 7\nr4 += 4\nr3 = r10\nr3 += -16\nr2 = 0\ncall 26\n";
        behind(read, "r2 = *(u32 *)(r10 - 16)", 0);
        behind(read, "r2 = *(u8 *)(r10 - 12)", BYTES);
        behind(read, "r2 = *(u64 *)(r10 - 24)", 0);
        String over = "*(u64 *)(r10 - 16) = 5\nr4 = *(u32 *)(r1 + 8)\nr4 &= 7\nr4 += 1\nr3 = r10\nr3 += -16\nr2 = 0\ncall 26\n";
        good(over + "r2 = *(u64 *)(r10 - 16)\n" + OVER);
        House.due("no VALUE", house.house.known(words(over) + 1, 2, 2), -1);
    }

    private static void settling() {
        String open = KEY + "r1 = map 0\ncall 1\nr6 = r0\n*(u64 *)(r10 - 16) = r0\n";
        behind(open + "if r6 == 0 goto +2\nr3 = *(u64 *)(r10 - 16)\n", "*(u64 *)(r3 + 0) = 1", 0);
        behind(open + "if r6 != 0 goto +2\nr3 = *(u64 *)(r10 - 16)\n", "*(u64 *)(r3 + 0) = 1", KIND);
        good(open + "if r0 != 0 goto +2\nr0 = 0\nexit\nr0 = 0\nexit");
        int at = words(open) + 1;
        House.due("is 0", house.house.known(at, 6, 0), 1);
        House.due("is 0", house.house.known(at, 6, 2), 0);
        House.due("is a cell", house.house.known(at + 2, 6, 0), 5);
        House.due("of map 0", house.house.known(at + 2, 6, 8), 0);
        House.due("was open", house.house.known(at - 1, 6, 0), 6);
        // another look-up has another tag
        String twice = open + "r1 = map 0\nr2 = r10\nr2 += -8\ncall 1\nif r0 == 0 goto +1\n";
        behind(twice, "r3 = *(u64 *)(r6 + 0)", NULL);
        behind(twice, "r3 = *(u64 *)(r0 + 0)", 0);
        // a record that is 0 is not held
        good("r1 = map 3\nr2 = 24\nr3 = 0\ncall 131\nif r0 == 0 goto +3\n" + SPARE + OVER);
        House.due("bytes", house.house.known(6, 0, 8), 24);
        House.due("kind", house.house.known(6, 0, 0), 9);
        House.due("kind ahead", house.house.known(5, 0, 0), 10);
        House.due("bytes ahead", house.house.known(5, 0, 8), 24);
    }

    private static void toldAndTaken() {
        fresh();
        FilterHouse x = house.house;
        House.due("judge", house.judge(2, OVER), 0);
        House.due("judge of none", x.judge(3), -1);
        House.due("judge of no slot", x.judge(8) + x.judge(-1), -2);
        House.due("told stays", x.told(1), 2);
        House.due("taken of no slot", x.taken(8) || x.taken(-1) || x.taken(3), false);
        House.due("told -1", x.told(-1), -1);
        House.due("told 6", x.told(6), -1);
        House.due("known of no register", x.known(0, 10, 0), -1);
        House.due("known of no register", x.known(0, -1, 0), -1);
        House.due("known of no what", x.known(0, 1, 10), -1);
        House.due("known of no what", x.known(0, 1, -1), -1);
        House.due("known of no word", x.known(-1, 1, 0), -1);
        House.due("known of no word", x.known(2, 1, 0), -1);
        House.due("known of no word", x.known(200, 1, 0), -1);
        House.due("known", x.known(1, 1, 0), 2);
        // of the latest pass
        House.due("judge", house.judge(2, "r6 = 0\nL: r6 += 1\nif r6 < 9 goto L\n" + OVER), 0);
        House.due("known of the latest pass", x.known(1, 6, 1), 8);
        // a map that is told later makes it good
        House.due("judge", house.judge(4, "r1 = map 5\n" + OVER), MAP);
        House.due("taken", x.taken(4), false);
        x.map(5, 3, 0, 0, 1);
        House.due("judge again", x.judge(4), 0);
        House.due("taken", x.taken(4), true);
        House.due("told of the fault's word", x.told(0), -1);
        House.due("kinds", house.judge(4, "r2 = r10\nr2 += -3\nr3 = map 5\nr4 = *(u32 *)(r1 + 4)\n" + OVER), 0);
        House.due("OFF", x.known(5, 2, 7), -3);
        House.due("map", x.known(5, 3, 8), 5);
        House.due("END", x.known(5, 4, 0), 8);
        House.due("unset", x.known(5, 5, 1) + x.known(5, 5, 6) + x.known(5, 5, 9), 0);
    }
}
