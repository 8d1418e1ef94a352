/**
 * Parts 5 and 6 and promises 11 to 14 at the edges that the document names, sentence by sentence. Each program is
 * judged by a new object, and by one that has judged others ahead of it, which must tell the same.
 */
public final class EdgeJudgeTest {
    private static final int FORM = 1;
    private static final int PLACE = 2;
    private static final int UNSET = 3;
    private static final int KIND = 4;
    private static final int RANGE = 5;
    private static final int BYTES = 6;
    private static final int LEAK = 7;
    private static final int CALL = 8;
    private static final int CONTEXT = 9;
    private static final int HELD = 10;
    private static final int LOOP = 11;
    private static final int MUCH = 12;
    private static final int DEEP = 13;
    private static final int NULL = 14;
    private static final int MAP = 15;

    private static final String OVER = "r0 = 0\nexit\n";
    private static final String KEY = "*(u64 *)(r10 - 8) = 1\n*(u64 *)(r10 - 16) = 1\nr2 = r10\nr2 += -16\n";
    private static final String RELEASE = "r1 = r0\nr2 = 0\ncall 133\n";
    private static final String PACKET = "r2 = *(u32 *)(r1 + 0)\nr3 = *(u32 *)(r1 + 4)\n";

    private static House house;
    private static House old = null;
    private static int oldCalls = 0;
    private static int turn = 0;
    private static Dice dice = new Dice(77);

    public static void main(String[] args) {
        toldAndKnown();
        takenAndChanged();
        places();
        offs();
        parts();
        stackPlaces();
        valuePlaces();
        reaches();
        contexts();
        setBytes();
        exchanges();
        nullTests();
        nullTestsElsewhere();
        packetTests();
        packetsElsewhere();
        frames();
        helperSix();
        helperTwentySix();
        helperFortyFour();
        helperRecords();
        kept();
        waiting();
        gone();
        heldMost();
        nothing();
        runOver();
        coveringOrder();
        coveringNumbers();
        coveringKinds();
        coveringTags();
        coveringFrames();
        coveringParts();
        longest();
        House.end();
    }

    private static House withMaps() {
        House h = new House();
        h.house.map(0, 0, 4, 8, 4);
        h.house.map(1, 1, 6, 16, 2);
        h.house.map(2, 2, 0, 0, 3);
        h.house.map(3, 3, 0, 0, 2);
        h.house.map(4, 0, 4, 1, 1);
        h.house.map(5, 1, 16, 64, 16);
        h.house.map(6, 3, 0, 0, 16);
        return h;
    }

    /** Judged, it has this fault at this word (-1: none). */
    private static void fault(String text, int which, int word) {
        house = withMaps();
        House.due("judge of <" + text + ">", house.judge(0, text), which);
        House.due("word of the fault of <" + text + ">", house.house.told(0), word);
        House.due("taken", house.house.taken(0), which == 0);
        if (which != 0) {
            House.due("LONGEST with a fault", house.house.told(3), 0);
        }
        again(text, which);
    }

    /** The same by an object that has judged other programs. */
    private static void again(String text, int which) {
        int calls = text.length() / 20 + 24;
        if (old == null || oldCalls + calls > 512) {
            old = withMaps();
            oldCalls = 7;
        }
        oldCalls += calls;
        turn++;
        House.due("judge behind others of <" + text + ">", old.judge(turn % 8, text), which);
        for (int what = 0; what <= 5; what++) {
            House.due("told(" + what + ") behind others of <" + text + ">", old.house.told(what), house.house.told(what));
        }
        int n = house.house.words(0);
        for (int k = 0; k < 12; k++) {
            int i = dice.below(n + 1);
            int r = dice.below(10);
            int what = dice.odds(1, 2) ? 0 : dice.below(10);
            House.due("known(" + i + ", " + r + ", " + what + ") behind others of <" + text + ">", old.house.known(i, r, what), house.house.known(i, r, what));
        }
    }

    private static void good(String text) {
        fault(text, 0, -1);
    }

    private static int words(String text) {
        House other = new House();
        int n = text.isEmpty() ? 0 : other.assemble(0, text);
        House.due("words of <" + text + ">", n > 0 || text.isEmpty(), true);
        return n;
    }

    /** The statement behind this beginning has this fault; or none, and then the program is over. */
    private static void behind(String begin, String statement, int which) {
        fault(begin + statement + "\n" + OVER, which, which == 0 ? -1 : words(begin));
    }

    private static void known(int i, int r, int what, long due) {
        House.due("known(" + i + ", " + r + ", " + what + ")", house.house.known(i, r, what), due);
    }

    /** V M U1 U2 S1 S2. */
    private static void knownNumber(int i, int r, long... due) {
        for (int what = 1; what <= 6; what++) {
            known(i, r, what, due[what - 1]);
        }
    }

    /** A cell of a map in r0. */
    private static String cell(int m) {
        return KEY + "r1 = map " + m + "\ncall 1\nif r0 != 0 goto +2\nr0 = 0\nexit\n";
    }

    private static String record(int n) {
        return "r1 = map 3\nr2 = " + n + "\nr3 = 0\ncall 131\nif r0 != 0 goto +2\nr0 = 0\nexit\n";
    }

    /** Promise 13 and 14: what they answer before any, with FORM and PLACE, and of what there is not. */
    private static void toldAndKnown() {
        FilterHouse x = new FilterHouse();
        for (int what : new int[] {0, -1, 6, 7, Integer.MIN_VALUE, Integer.MAX_VALUE}) {
            House.due("told(" + what + ") before any", x.told(what), -1);
        }
        for (int what = 1; what <= 5; what++) {
            House.due("told(" + what + ") before any", x.told(what), 0);
        }
        for (int what = -1; what <= 10; what++) {
            House.due("known(0, 1, " + what + ") before any", x.known(0, 1, what), -1);
        }
        House.due("judge of no program", x.judge(0), -1);
        House.due("told(0) behind it", x.told(0), -1);
        House.due("told(2) behind it", x.told(2), 0);
        good("r0 = 7\nr6 = 1 ll\nexit");
        House h = house;
        for (int what : new int[] {-1, 6, 100, Integer.MIN_VALUE}) {
            House.due("told(" + what + ")", h.house.told(what), -1);
        }
        int[] due = {-1, 3, 1, 3, 0, 1};
        for (int what = 0; what <= 5; what++) {
            House.due("told(" + what + ")", h.house.told(what), due[what]);
        }
        known(0, 1, 0, 2);
        known(3, 0, 1, 7);
        for (int i : new int[] {-1, 2, 4, 5, 199, 200, Integer.MIN_VALUE, Integer.MAX_VALUE}) {
            known(i, 0, 0, -1);
        }
        for (int r : new int[] {-1, 10, 11, Integer.MIN_VALUE, Integer.MAX_VALUE}) {
            known(0, r, 0, -1);
        }
        for (int what : new int[] {-1, 10, 11, Integer.MIN_VALUE, Integer.MAX_VALUE}) {
            known(0, 0, what, -1);
        }
        // what is refused changes nothing: told, known of the latest judge() stay
        House.due("judge of a slot without a program", h.house.judge(1), -1);
        House.due("judge of no slot", h.house.judge(8), -1);
        House.due("told(1) stays", h.house.told(1), 3);
        known(3, 0, 1, 7);
        // 1 to 5 are 0 behind FORM, PLACE, and nothing was gone
        for (String text : new String[] {"r0 = 1\nexit\nword 0", "r0 = 1\nexit\nr0 = 2"}) {
            House.due("judge", h.judge(2, text), text.contains("word") ? FORM : PLACE);
            House.due("the fault's word", h.house.told(0), 2);
            for (int what = 1; what <= 5; what++) {
                House.due("told(" + what + ") behind FORM, PLACE", h.house.told(what), 0);
            }
            known(0, 1, 0, -1);
            known(3, 0, 1, -1);
        }
        // of each kind what it has, else 0
        good(PACKET + "r4 = map 5\nr5 = r10\nr5 += -24\nr6 = r1\nr2 += 9\nr0 = 0\nexit");
        int[][] fields = {{2, 7, 0, 0, 9, 0, 0}, {3, 8, 0, 0, 0, 0, 0}, {4, 4, 0, 0, 0, 5, 0}, {5, 3, 0, 0, -24, 0, 0}, {6, 2, 0, 0, 0, 0, 0}, {8, 0, 0, 0, 0, 0, 0}};
        for (int[] f : fields) {
            int last = 9;
            known(last, f[0], 0, f[1]);
            for (int what = 1; what <= 6; what++) {
                known(last, f[0], what, 0);
            }
            known(last, f[0], 7, f[4]);
            known(last, f[0], 8, f[5]);
            known(last, f[0], 9, f[6]);
        }
        // also of one with a fault, and of the latest pass
        fault("r6 = 5\nr0 = r7\nexit", UNSET, 1);
        known(1, 6, 1, 5);
        known(2, 6, 0, -1);
        good("r6 = 0\nL: r6 += 1\nif r6 < 7 goto L\n" + OVER);
        known(1, 6, 1, 6);
        known(2, 6, 1, 7);
    }

    /** Promises 11 and 12: "else its fault (it is taken no more)", "was taken, and not changed since". */
    private static void takenAndChanged() {
        House h = withMaps();
        FilterHouse x = h.house;
        for (int slot = 0; slot < 8; slot++) {
            House.due("taken without a program", x.taken(slot), false);
            h.assemble(slot, "r0 = 1\nexit");
            House.due("taken before judge()", x.taken(slot), false);
        }
        House.due("judge", x.judge(7), 0);
        for (int slot = 0; slot < 8; slot++) {
            House.due("taken " + slot, x.taken(slot), slot == 7);
        }
        House.due("wrong text", h.assemble(7, "r0"), -12);
        House.due("wrong bytes", h.tape(new byte[9]).house.load(7), -1);
        House.due("taken still", x.taken(7), true);
        House.due("run", x.run(7, 0), 2);
        House.due("assemble of the same", h.assemble(7, "r0 = 1\nexit"), 2);
        House.due("taken no more", x.taken(7), false);
        House.due("run of what is not taken", x.run(7, 0), -1);
        House.due("judge again", x.judge(7), 0);
        House.due("load of what it has", h.tapeWords(0x1000000b7L, 0x95).house.load(7), 2);
        House.due("taken no more", x.taken(7), false);
        House.due("judge again", x.judge(7), 0);
        House.due("taken", x.taken(7), true);
        House.due("judge again", x.judge(7), 0);
        House.due("taken", x.taken(7), true);
        House.due("a program with a fault", h.judge(7, "exit"), UNSET);
        House.due("taken no more", x.taken(7), false);
        House.due("no slot", x.taken(-1) | x.taken(8), false);
    }

    /** 2 PLACE. */
    private static void places() {
        fault("goto +0", PLACE, 0);
        fault("goto -1", LOOP, 0);
        fault("goto -2", PLACE, 0);
        fault("r0 = 0\nif r0 > 1 goto +1\nexit", PLACE, 1);
        good("r0 = 0\nif r0 > 1 goto +0\nexit");
        fault("r0 = 0\nif r0 > 1 goto -3\nexit", PLACE, 1);
        good("r0 = 0\nif r0 > 1 goto -2\nexit");
        fault("gotol +2147483647\nexit", PLACE, 0);
        fault("gotol -2147483648\nexit", PLACE, 0);
        fault("call +2147483647\nexit", PLACE, 0);
        fault("call -2147483648\nexit", PLACE, 0);
        fault("goto +32767\nexit", PLACE, 0);
        fault("goto -32768\nexit", PLACE, 0);
        fault("call +1\nexit", PLACE, 0);
        fault("call -2\nexit", PLACE, 0);
        // the word behind the 200th, the first and the last one
        String most = "r0 = 0\n".repeat(198);
        for (String far : new String[] {"goto +0", "gotol +0", "goto +1", "goto -201", "if r0 > 1 goto +0", "call +0", "call -201"}) {
            fault(most + "exit\n" + far, PLACE, 199);
        }
        good(most + "exit\ngoto -2");
        good(most + "exit\ngoto -200");
        fault("goto +199\n" + most + "exit", PLACE, 0);
        fault("goto +198\n" + "r0 = 0\n".repeat(197) + "exit\ngoto -2", UNSET, 198);
        // to the second word of a pair; from the last word of a pair on
        fault("goto +1\nr1 = 1 ll\nr0 = 0\nexit", PLACE, 0);
        fault("r1 = 1 ll\ngoto -2\nexit", PLACE, 2);
        fault("r1 = 1 ll\ngoto -3\nexit", LOOP, 0);
        fault("call +1\nr1 = 1 ll\nexit", PLACE, 0);
        // behind which the program ends
        for (String last : new String[] {"r0 = 0", "r1 = 1 ll", "call 5", "call -4", "if r0 == 0 goto -1", "r0 = *(u8 *)(r1 + 0)"}) {
            fault("r0 = 0\nexit\nr0 = 0\n" + last, PLACE, 3);
        }
        for (String last : new String[] {"exit", "goto -2", "gotol -2"}) {
            good("r0 = 0\nexit\nr0 = 0\n" + last);
        }
        // behind which a function ends: one begins where an instruction is that is called
        for (String last : new String[] {"r0 = 0", "call 5", "if r0 == 0 goto -1", "r1 = 1 ll"}) {
            fault("call f\nexit\n" + last + "\nf: r0 = 0\nexit", PLACE, 2);
        }
        for (String last : new String[] {"exit", "goto -2", "gotol -2"}) {
            good("call f\nexit\n" + last + "\nf: r0 = 0\nexit");
        }
        // into another function, on and back, and at its begin
        fault("call f\ngoto f\nf: r0 = 0\nexit", PLACE, 1);
        fault("call f\nexit\nf: r0 = 0\nif r0 > 1 goto -3\nexit", PLACE, 3);
        fault("call f\nif r0 > 1 goto g\nexit\nf: r0 = 0\ng: exit", PLACE, 1);
        good("call f\nexit\nf: r0 = 0\nif r0 > 1 goto f\nexit");
        good("call f\nif r0 > 1 goto -1\nexit\nf: r0 = 0\nexit");
        // a function that is called by itself alone is one, too
        fault("r0 = 0\nr0 = 1\ncall -2\nexit", PLACE, 0);
        // calling what begins at 0
        fault("r0 = 0\ncall -2\nexit", DEEP, 1);
        // the first one of them
        fault("r0 = 0\ngoto +9\ngoto +9\nr0 = 0", PLACE, 1);
        // FORM ahead of PLACE
        fault("goto +9\nexit\nword 0", FORM, 2);
        // in another function, though nothing goes there
        fault("r0 = 0\nexit\ncall f\nexit\nf: goto -3\n", PLACE, 4);
    }

    /** "5 RANGE: .. an OFF beyond -4096 .. 4096": of each kind that has one, by + and -, the number first. */
    private static void offs() {
        String[] begins = {"r6 = r10\n", cell(0) + "r6 = r0\n", PACKET + "r6 = r2\n", record(8) + "r6 = r0\n" + "*(u64 *)(r10 - 8) = r0\n"};
        int[] kinds = {3, 5, 7, 9};
        for (int k = 0; k < 4; k++) {
            String begin = begins[k];
            String end = k == 3 ? "r1 = *(u64 *)(r10 - 8)\nr2 = 0\ncall 133\n" + OVER : OVER;
            for (int off : new int[] {4096, -4096, 4095, -4095, 0}) {
                good(begin + "r6 += " + off + "\n" + end);
                known(words(begin) + 1, 6, 7, off);
                known(words(begin) + 1, 6, 0, kinds[k]);
                good(begin + "r6 -= " + -off + "\n" + end);
                known(words(begin) + 1, 6, 7, off);
                good(begin + "r7 = " + off + "\nr7 += r6\n" + end);
                known(words(begin) + 2, 7, 0, kinds[k]);
                known(words(begin) + 2, 7, 7, off);
                known(words(begin) + 2, 6, 7, 0);
                good(begin + "r7 = " + off + "\nr6 += r7\nr6 -= r7\n" + end);
                known(words(begin) + 3, 6, 7, 0);
            }
            for (int off : new int[] {4097, -4097, 65536, Integer.MAX_VALUE, Integer.MIN_VALUE}) {
                fault(begin + "r6 += " + off + "\n" + end, RANGE, words(begin));
                fault(begin + "r7 = " + off + "\nr7 += r6\n" + end, RANGE, words(begin) + 1);
            }
            fault(begin + "r6 -= 4097\n" + end, RANGE, words(begin));
            fault(begin + "r6 -= -4097\n" + end, RANGE, words(begin));
            fault(begin + "r6 += 4096\nr6 += 1\n" + end, RANGE, words(begin) + 1);
            fault(begin + "r6 += -4096\nr6 -= 1\n" + end, RANGE, words(begin) + 1);
            // from one end to the other
            good(begin + "r6 += -4096\nr6 += 8192\n" + end);
            known(words(begin) + 2, 6, 7, 4096);
            good(begin + "r6 += 4096\nr6 -= 8192\n" + end);
            known(words(begin) + 2, 6, 7, -4096);
            fault(begin + "r6 += -4096\nr6 += 8193\n" + end, RANGE, words(begin) + 1);
            fault(begin + "r6 += 4096\nr6 -= 8193\n" + end, RANGE, words(begin) + 1);
            // numbers that run over
            for (String far : new String[] {"9223372036854775807", "-9223372036854775808", "18446744073709551615", "9223372036854771712", "-4096"}) {
                boolean near = far.equals("18446744073709551615") || far.equals("-4096");
                fault(begin + "r6 += -1\nr7 = " + far + " ll\nr6 += r7\n" + end, near && !far.equals("-4096") ? 0 : RANGE,
                        near && !far.equals("-4096") ? -1 : words(begin) + 3);
                fault(begin + "r6 += 1\nr7 = " + far + " ll\nr6 -= r7\n" + end, near && !far.equals("-4096") ? 0 : RANGE,
                        near && !far.equals("-4096") ? -1 : words(begin) + 3);
            }
            // a number less a pointer; of 32 bits
            fault(begin + "r7 = 5\nr7 -= r6\n" + end, KIND, words(begin) + 1);
            fault(begin + "w6 += 5\n" + end, KIND, words(begin));
            fault(begin + "r6 += r6\n" + end, KIND, words(begin));
            fault(begin + "r6 -= r6\n" + end, KIND, words(begin));
        }
        // of a place the instruction's OFF has no such end
        good("r6 = r10\nr6 += 4096\n*(u8 *)(r6 - 4097) = 1\n" + OVER);
        good("r6 = r10\nr6 += 4096\n*(u8 *)(r6 - 4224) = 1\n" + OVER);
        fault("r6 = r10\nr6 += 4096\n*(u8 *)(r6 - 4225) = 1\n" + OVER, RANGE, 2);
        fault("r6 = r10\nr6 += -4096\n*(u8 *)(r6 + 4096) = 1\n" + OVER, RANGE, 2);
        good("r6 = r10\nr6 += -4096\n*(u8 *)(r6 + 4095) = 1\n" + OVER);
        fault("*(u8 *)(r10 - 32768) = 1\n" + OVER, RANGE, 0);
        fault("*(u64 *)(r10 + 32767) = 1\n" + OVER, RANGE, 0);
        // kinds that have none
        fault("r1 += 0\n" + OVER, KIND, 0);
        fault("r2 = map 0\nr2 += 0\n" + OVER, KIND, 2);
        fault("r2 = *(u32 *)(r1 + 4)\nr2 -= 0\n" + OVER, KIND, 1);
    }

    /** "a PART with U2 above 65535"; "other numbers (+ alone, and not to kind 3: KIND) come to PART (+)". */
    private static void parts() {
        String some = "r7 = *(u32 *)(r1 + 8)\n";
        String[] begins = {some + cell(0) + "r6 = r0\n", some + PACKET + "r6 = r2\n", some + record(8) + "r6 = r0\n*(u64 *)(r10 - 8) = r0\n"};
        for (int k = 0; k < 3; k++) {
            String begin = begins[k];
            String end = k == 2 ? "r1 = *(u64 *)(r10 - 8)\nr2 = 0\ncall 133\n" + OVER : OVER;
            good(begin + "r7 &= 65535\nr6 += r7\n" + end);
            int at = words(begin) + 2;
            knownNumber(at, 6, 0, 65535, 0, 65535, 0, 65535);
            known(at, 6, 0, k == 0 ? 5 : k == 1 ? 7 : 9);
            known(at, 6, 7, 0);
            known(at, 6, 8, k == 2 ? 8 : 0);
            good(begin + "r7 &= 65535\nr7 += r6\n" + end);
            knownNumber(at, 7, 0, 65535, 0, 65535, 0, 65535);
            knownNumber(at, 6, 0, 0, 0, 0, 0, 0);
            known(at, 7, 0, k == 0 ? 5 : k == 1 ? 7 : 9);
            fault(begin + "r7 &= 65536\nr6 += r7\n" + end, RANGE, words(begin) + 1);
            fault(begin + "r7 &= 65536\nr7 += r6\n" + end, RANGE, words(begin) + 1);
            fault(begin + "r6 += r7\n" + end, RANGE, words(begin));
            fault(begin + "r7 = (s8) r7\nr6 += r7\n" + end, RANGE, words(begin) + 1);
            // up to 65534, one more; and two more
            String less = "r7 &= 65535\nif r7 != 65535 goto +1\nr7 = 3\n";
            good(begin + less + "r8 = r7\nr8 &= 1\nr6 += r7\n" + end);
            fault(begin + "r8 = r7\n" + less + "r8 &= 1\nr6 += r7\nr6 += r8\nr6 += r8\n" + end, RANGE, words(begin + "r8 = r7\n" + less) + 3);
            // the constant goes to OFF, what was added stays in PART
            good(begin + "r7 &= 7\nr6 += r7\nr6 += 5\n" + end);
            known(at + 1, 6, 7, 5);
            knownNumber(at + 1, 6, 0, 7, 0, 7, 0, 7);
            fault(begin + "r7 &= 7\nr6 -= r7\n" + end, KIND, words(begin) + 1);
            fault(begin + "r7 &= 7\nr6 += r7\nr6 -= r7\n" + end, KIND, words(begin) + 2);
            fault(begin + "r7 &= 7\nr7 -= r6\n" + end, KIND, words(begin) + 1);
            // the sum is tidied: of 5 .. 7 a bit is known
            good(begin + "r8 = r7\nr8 &= 1\nr7 &= 3\nr7 |= 4\nif r7 < 5 goto +4\nif r7 > 6 goto +3\nr6 += r7\nr6 += r8\nr7 = 0\nr7 = 0\n" + end);
            knownNumber(words(begin) + 8, 6, 4, 3, 5, 7, 5, 7);
        }
        fault(some + "r6 = r10\nr7 &= 7\nr6 += r7\n" + OVER, KIND, 3);
        fault(some + "r7 &= 7\nr7 += r10\n" + OVER, KIND, 2);
    }

    private static final String[] PUTS = {"*(u%d *)(r6 %s) = 1", "*(u%d *)(r6 %s) = r7", "r8 = *(u%d *)(r6 %s)", "r8 = *(s%d *)(r6 %s)"};

    private static String at(String form, int n, int off) {
        return String.format(form, 8 * n, (off < 0 ? "- " : "+ ") + Math.abs(off));
    }

    /** "kind 3: OFF and the instruction's make a: -128 .. -n". */
    private static void stackPlaces() {
        StringBuilder all = new StringBuilder("r7 = 1\nr6 = r10\n");
        for (int a = -128; a < 0; a += 8) {
            all.append("*(u64 *)(r10 - ").append(-a).append(") = 5\n");
        }
        for (int n : new int[] {1, 2, 4, 8}) {
            for (int form = 0; form < 4; form++) {
                if (form == 3 && n == 8) {
                    continue;
                }
                for (int off : new int[] {0, 50, -50}) {
                    String begin = all + "r6 += " + off + "\n";
                    for (int a : new int[] {-129, -128, -127, -n - 1, -n, -n + 1, 0, 1}) {
                        behind(begin, at(PUTS[form], n, a - off), a >= -128 && a <= -n ? 0 : RANGE);
                    }
                }
            }
        }
        String put = "r7 = 1\n*(u64 *)(r10 - 8) = 1\n*(u64 *)(r10 - 128) = 1\n";
        for (String form : new String[] {"lock *(u%d *)(r10 %s) += r7", "fetch *(u%d *)(r10 %s) ^= r7", "xchg *(u%d *)(r10 %s) r7"}) {
            for (int n : new int[] {4, 8}) {
                for (int a : new int[] {-129, -128, -n, -n + 1, 0}) {
                    behind(put, at(form, n, a), a >= -128 && a <= -n ? 0 : RANGE);
                }
            }
        }
    }

    /** "5, 9: a and PART lie in the value (the record)": values and records of 1, 8, 16 and 64 bytes. */
    private static void valuePlaces() {
        int[] maps = {4, 0, 1, 5};
        int[] sizes = {1, 8, 16, 64};
        String some = "r9 = *(u32 *)(r1 + 8)\nr7 = 1\n";
        for (int k = 0; k < 4; k++) {
            for (int record = 0; record < 2; record++) {
                int size = sizes[k];
                String begin = some + (record == 1 ? record(size) + "*(u64 *)(r10 - 8) = r0\n" : cell(maps[k])) + "r6 = r0\n";
                String end = record == 1 ? "r1 = *(u64 *)(r10 - 8)\nr2 = 0\ncall 133\n" + OVER : OVER;
                for (int n : new int[] {1, 8, 4}) {
                    for (int a : new int[] {-1, 0, size - n, size - n + 1, size, -n}) {
                        boolean in = a >= 0 && a + n <= size;
                        fault(begin + at(PUTS[a & 1], n, a) + "\n" + end, in ? 0 : RANGE, in ? -1 : words(begin));
                        fault(begin + "r6 += 100\n" + at(PUTS[2], n, a - 100) + "\n" + end, in ? 0 : RANGE, in ? -1 : words(begin) + 1);
                        fault(begin + "r9 &= 3\nr6 += r9\n" + at(PUTS[1], n, a) + "\n" + end, in && a + 3 + n <= size ? 0 : RANGE,
                                in && a + 3 + n <= size ? -1 : words(begin) + 2);
                        // PART from 3 to 7: the instruction's OFF may be below 0 then
                        boolean moved = a >= 0 && a + 4 + n <= size;
                        fault(begin + "r9 &= 7\nif r9 < 3 goto +2\nr6 += r9\n" + at(PUTS[0], n, a - 3) + "\n" + end, moved ? 0 : RANGE, moved ? -1 : words(begin) + 3);
                    }
                }
            }
        }
    }

    /** "7: a is 0 or more, and a + n at most REACH". */
    private static void reaches() {
        for (int reach : new int[] {1, 8, 14, 256, 4096}) {
            String begin = PACKET + "r7 = 1\nr6 = r2\nr4 = r2\nr4 += " + reach + "\nif r4 <= r3 goto +2\nr0 = 0\nexit\n";
            for (int n : new int[] {1, 2, 4, 8}) {
                for (int a : new int[] {-1, 0, reach - n, reach - n + 1, reach}) {
                    boolean in = a >= 0 && a + n <= reach;
                    behind(begin, at(PUTS[0], n, a), in ? 0 : RANGE);
                    behind(begin, at(PUTS[2], n, a), in ? 0 : RANGE);
                    behind(begin + "r6 += -30\n", at(PUTS[1], n, a + 30), in ? 0 : RANGE);
                }
            }
            behind(begin, "lock *(u32 *)(r6 + 0) += r7", KIND);
        }
        // without any test none is there
        behind(PACKET + "r7 = 1\nr6 = r2\n", "r8 = *(u8 *)(r6 + 0)", RANGE);
        // a packet's place of a PART: its REACH is from the part on
        String begin = PACKET + "r7 = *(u32 *)(r1 + 8)\nr7 &= 255\nr6 = r2\nr6 += r7\nr4 = r6\nr4 += 2\nif r4 <= r3 goto +2\nr0 = 0\nexit\n";
        behind(begin, "r8 = *(u16 *)(r6 + 0)", 0);
        behind(begin, "r8 = *(u16 *)(r4 - 2)", 0);
        behind(begin, "r8 = *(u8 *)(r6 + 2)", RANGE);
        behind(begin, "r8 = *(u8 *)(r6 - 1)", RANGE);
        behind(begin, "r8 = *(u8 *)(r2 + 0)", RANGE);
        // OFF 0 as told: END itself
        behind(PACKET + "if r2 < r3 goto +2\nr0 = 0\nexit\n", "r8 = *(u8 *)(r2 + 0)", 0);
        behind(PACKET + "if r2 <= r3 goto +2\nr0 = 0\nexit\n", "r8 = *(u8 *)(r2 + 0)", RANGE);
    }

    /** "9 CONTEXT: of it just 4 bytes at 0, 4, .. 16 are read (61 alone), at 12 put." */
    private static void contexts() {
        for (int off = -4; off <= 24; off++) {
            boolean read = off >= 0 && off <= 16 && off % 4 == 0;
            behind("r6 = r1\nr7 = 1\n", at(PUTS[2], 4, off), read ? 0 : CONTEXT);
            behind("r6 = r1\nr7 = 1\n", at(PUTS[0], 4, off), off == 12 ? 0 : CONTEXT);
            behind("r6 = r1\nr7 = 1\n", at(PUTS[1], 4, off), off == 12 ? 0 : CONTEXT);
        }
        for (int n : new int[] {1, 2, 8}) {
            for (int off : new int[] {0, 8, 12, 16}) {
                behind("r6 = r1\nr7 = 1\n", at(PUTS[2], n, off), CONTEXT);
                behind("r6 = r1\nr7 = 1\n", at(PUTS[0], n, off), CONTEXT);
                behind("r6 = r1\nr7 = 1\n", at(PUTS[1], n, off), CONTEXT);
            }
        }
        for (int n : new int[] {1, 2, 4}) {
            behind("r6 = r1\n", at(PUTS[3], n, 12), CONTEXT);
        }
        behind("r6 = r1\nr7 = 1\n", "lock *(u32 *)(r6 + 12) += r7", KIND);
        behind("r6 = r1\nr7 = r10\n", "*(u32 *)(r6 + 12) = r7", LEAK);
        behind("r6 = r1\nr7 = r10\n", "*(u32 *)(r6 + 8) = r7", CONTEXT);
        good("r2 = *(u32 *)(r1 + 8)\nr3 = *(u32 *)(r1 + 12)\nr4 = *(u32 *)(r1 + 16)\nr0 = 0\nexit");
        for (int r = 2; r <= 4; r++) {
            knownNumber(4, r, 0, 0xFFFFFFFFL, 0, 0xFFFFFFFFL, 0, 0xFFFFFFFFL);
        }
    }

    /** "parts with a VALUE have set bytes from then on (none, if that was no NUMBER)". */
    private static void setBytes() {
        for (int put = 0; put < 8; put++) {
            for (int b = 0; b < 8; b++) {
                String begin = "*(u64 *)(r10 - 16) = r1\n*(u8 *)(r10 - " + (16 - put) + ") = 1\n";
                behind(begin, "r6 = *(u8 *)(r10 - " + (16 - b) + ")", b == put ? 0 : BYTES);
                begin = "*(u64 *)(r10 - 16) = 1\n*(u8 *)(r10 - " + (16 - put) + ") = 1\n";
                behind(begin, "r6 = *(u8 *)(r10 - " + (16 - b) + ")", 0);
                begin = "*(u8 *)(r10 - " + (16 - put) + ") = 1\n";
                behind(begin, "r6 = *(s8 *)(r10 - " + (16 - b) + ")", b == put ? 0 : BYTES);
            }
        }
        // bytes over two parts: of the one a VALUE, of the other none
        String over = "*(u64 *)(r10 - 24) = r1\n*(u64 *)(r10 - 16) = 7\n*(u64 *)(r10 - 20) = 1\n";
        behind(over, "r6 = *(u32 *)(r10 - 20)", 0);
        behind(over, "r6 = *(u64 *)(r10 - 16)", 0);
        behind(over, "r6 = *(u64 *)(r10 - 20)", 0);
        behind(over, "r6 = *(u8 *)(r10 - 21)", BYTES);
        behind(over, "r6 = *(u64 *)(r10 - 24)", BYTES);
        good(over + "r6 = *(u64 *)(r10 - 16)\nr7 = *(u64 *)(r10 - 20)\n" + OVER);
        knownNumber(5, 6, 0, -1, 0, -1, Long.MIN_VALUE, Long.MAX_VALUE);
        // a whole part that is put again, 8 bytes that are none
        good("*(u64 *)(r10 - 16) = r1\n*(u64 *)(r10 - 16) = 9\nr6 = *(u64 *)(r10 - 16)\nr7 = *(u32 *)(r10 - 16)\nr8 = *(s16 *)(r10 - 10)\n" + OVER);
        known(5, 6, 1, 9);
        knownNumber(5, 7, 0, 0xFFFFFFFFL, 0, 0xFFFFFFFFL, 0, 0xFFFFFFFFL);
        knownNumber(5, 8, 0, -1, 0, -1, -32768, 32767);
        good("*(u64 *)(r10 - 128) = r10\nr6 = *(u64 *)(r10 - 128)\n*(u64 *)(r10 - 8) = r6\nr7 = *(u64 *)(r10 - 8)\n" + OVER);
        known(4, 7, 0, 3);
        for (int off = 1; off < 8; off++) {
            behind("", "*(u64 *)(r10 - " + (24 - off) + ") = r1", LEAK);
        }
        for (int n : new int[] {1, 2, 4}) {
            behind("", "*(u" + 8 * n + " *)(r10 - 16) = r1", LEAK);
        }
        // part of what is no NUMBER
        behind("*(u64 *)(r10 - 16) = r1\n", "r6 = *(u32 *)(r10 - 16)", BYTES);
        behind("*(u64 *)(r10 - 16) = r1\n*(u64 *)(r10 - 8) = 1\n", "r6 = *(u64 *)(r10 - 12)", BYTES);
    }

    /** "C3, DB: of kinds 3, 5, 9 alone (KIND); S (of F1 r0, too, first) a NUMBER (LEAK); bytes must be set .." */
    private static void exchanges() {
        String[] forms = {"lock *(u%d *)(%s) += r7", "fetch *(u%d *)(%s) |= r7", "xchg *(u%d *)(%s) r7", "cmpxchg *(u%d *)(%s) r7"};
        for (int k = 0; k < 4; k++) {
            for (int n : new int[] {4, 8}) {
                String form = String.format(forms[k], 8 * n, "r10 - 8");
                behind("r0 = 1\nr7 = 1\n*(u64 *)(r10 - 8) = 1\n", form, 0);
                behind("r0 = 1\nr7 = 1\n*(u32 *)(r10 - 8) = 1\n", form, n == 4 ? 0 : BYTES);
                behind("r0 = 1\nr7 = r10\n*(u64 *)(r10 - 8) = 1\n", form, LEAK);
                behind("r0 = 1\nr7 = r10\n", form, BYTES);
                behind("r0 = 1\n", form, UNSET);
                behind("r0 = r10\nr7 = 1\n*(u64 *)(r10 - 8) = 1\n", form, k == 3 ? LEAK : 0);
                behind("r7 = 1\n*(u64 *)(r10 - 8) = 1\n", form, k == 3 ? UNSET : 0);
                for (String other : new String[] {"r6 = r1", "r6 = map 0", "r6 = *(u32 *)(r1 + 0)", "r6 = *(u32 *)(r1 + 4)", "r6 = 9"}) {
                    String begin = "r0 = 1\nr7 = 1\n" + other + "\n";
                    behind(begin, String.format(forms[k], 8 * n, "r6 + 0"), KIND);
                }
                behind(KEY + "r1 = map 0\ncall 1\nr7 = 1\nr6 = r0\nr0 = 1\n", String.format(forms[k], 8 * n, "r6 + 0"), NULL);
                String open = "r7 = r10\n" + cell(0) + "r6 = r0\nr0 = 1\n";
                behind(open, String.format(forms[k], 8 * n, "r6 + 0"), LEAK);
                behind(open, String.format(forms[k], 8 * n, "r6 + 1"), n == 4 ? LEAK : RANGE);
            }
        }
        // S (F1: r0) is WIDE n; else S stays; what stands there are bytes
        String text = "r0 = 1\nr7 = 5\n*(u64 *)(r10 - 8) = 7\n%s\nr6 = *(u64 *)(r10 - 8)\n" + OVER;
        good(String.format(text, String.format(forms[0], 64, "r10 - 8")));
        known(4, 7, 1, 5);
        known(5, 6, 2, -1);
        good(String.format(text, String.format(forms[1], 32, "r10 - 8")));
        known(4, 7, 2, 0xFFFFFFFFL);
        known(4, 7, 4, 0xFFFFFFFFL);
        good(String.format(text, String.format(forms[2], 64, "r10 - 8")));
        known(4, 7, 2, -1);
        good(String.format(text, String.format(forms[3], 32, "r10 - 8")));
        known(4, 7, 1, 5);
        known(4, 0, 4, 0xFFFFFFFFL);
        good(String.format(text, String.format(forms[3], 64, "r10 - 8")));
        known(4, 0, 2, -1);
        known(4, 0, 5, Long.MIN_VALUE);
    }

    /** "== and != (of 64 bits) with IMM 0: kinds 6, 10: both ways .. 2 to 5, 7 to 9: it is not 0." */
    private static void nullTests() {
        String[] begins = {"r6 = r1\n", "r6 = r10\n", "r6 = map 0\n", cell(0) + "r6 = r0\n", "r6 = *(u32 *)(r1 + 0)\n", "r6 = *(u32 *)(r1 + 4)\n"};
        for (String begin : begins) {
            good(begin + "if r6 == 0 goto +1\ngoto +1\nr0 = r9\n" + OVER);
            known(words(begin) + 2, 6, 0, -1);
            good(begin + "if r6 != 0 goto +1\nr0 = r9\n" + OVER);
            known(words(begin) + 1, 6, 0, -1);
            behind(begin, "if r6 == 1 goto +0", KIND);
            behind(begin, "if r6 != -1 goto +0", KIND);
            behind(begin, "if w6 == 0 goto +0", KIND);
            behind(begin, "if w6 != 0 goto +0", KIND);
            behind(begin, "if r6 > 0 goto +0", KIND);
            behind(begin, "if r6 & 0 goto +0", KIND);
            behind(begin + "r7 = 0\n", "if r6 == r7 goto +0", KIND);
            behind(begin + "r7 = 0\n", "if r7 != r6 goto +0", KIND);
        }
        // of a record
        good(record(8) + "if r0 == 0 goto +1\ngoto +1\nr1 = r9\n" + RELEASE + OVER);
        String[] open = {KEY + "r1 = map 0\ncall 1\n", "r1 = map 3\nr2 = 8\nr3 = 0\ncall 131\n"};
        for (String begin : open) {
            behind(begin, "if r0 == 1 goto +0", NULL);
            behind(begin, "if w0 == 0 goto +0", NULL);
            behind(begin, "if w0 != 0 goto +0", NULL);
            behind(begin, "if r0 >= 0 goto +0", NULL);
            behind(begin + "r7 = 0\n", "if r7 == r0 goto +0", NULL);
            behind(begin + "r7 = r10\n", "if r7 > r0 goto +0", NULL);
        }
        // UNSET ahead of NULL
        behind(KEY + "r1 = map 0\ncall 1\n", "if r0 == r9 goto +0", UNSET);
        behind("", "if r6 == 0 goto +0", UNSET);
    }

    /** "all VALUES with this TAG (of all frames, on stacks, too) are the NUMBER 0 .., on the other 5, 9, OFF 0, PART 0". */
    private static void nullTestsElsewhere() {
        // in r6 and on the stack of the caller, and on the function's own, the test being done there
        for (String test : new String[] {"==", "!="}) {
            good(KEY + "r1 = map 0\ncall 1\nr6 = r0\n*(u64 *)(r10 - 24) = r0\nr1 = r0\ncall f\nif r0 == 1 goto +0\nr8 = *(u64 *)(r10 - 24)\n" + OVER
                    + "f: *(u64 *)(r10 - 8) = r1\nr2 = *(u64 *)(r10 - 8)\nif r1 " + test + " 0 goto +3\n"
                    + "r0 = 5\nr3 = *(u64 *)(r10 - 8)\nexit\nr0 = 6\nr3 = *(u64 *)(r10 - 8)\nexit\n");
            known(17, 2, 0, 6);
            for (int way = 0; way < 2; way++) {
                int kind = (way == 1) == test.equals("==") ? 1 : 5;
                int at = 18 + 3 * way;
                known(at, 1, 0, kind);
                known(at, 2, 0, kind);
                known(at + 2, 3, 0, kind);
                for (int what = 1; what <= 9; what++) {
                    known(at, 2, what, 0);
                    known(at + 2, 3, what, 0);
                }
            }
        }
        // behind the function both are so in the caller: what was no 0 can be used, by whom was told 5
        String caller = KEY + "r1 = map 0\ncall 1\nr6 = r0\n*(u64 *)(r10 - 24) = r0\nr1 = r0\ncall f\nif r0 == 1 goto +2\nr0 = 0\nexit\n%s\nr0 = 0\nexit\n"
                + "f: if r1 != 0 goto +2\nr0 = 0\nexit\nr0 = 1\nexit\n";
        good(String.format(caller, "r8 = *(u64 *)(r6 + 0)"));
        good(String.format(caller, "r8 = *(u64 *)(r10 - 24)\nr8 = *(u64 *)(r8 + 0)"));
        String zero = caller.replace("if r1 != 0", "if r1 == 0");
        fault(String.format(zero, "r8 = *(u64 *)(r6 + 0)"), KIND, words(KEY) + 10);
        good(String.format(zero, "r8 = *(u64 *)(r10 - 24)\nr6 += r8"));
        known(words(KEY) + 12, 8, 1, 0);
        known(words(KEY) + 12, 8, 0, 1);
        // another TAG is another one: its own test alone tells of it
        String two = KEY + "r1 = map 0\ncall 1\nr6 = r0\n" + KEY + "r1 = map 0\ncall 1\nif r0 == 0 goto +1\n%s\n" + OVER;
        fault(String.format(two, "r8 = *(u8 *)(r6 + 0)"), NULL, words(KEY) * 2 + 8);
        good(String.format(two, "r8 = *(u8 *)(r0 + 0)"));
        // "of 10: it is held no more" on the way where it is 0, and just there
        good("r1 = map 3\nr2 = 1\nr3 = 0\ncall 131\nif r0 == 0 goto +3\n" + RELEASE + OVER);
        fault("r1 = map 3\nr2 = 1\nr3 = 0\ncall 131\nif r0 != 0 goto +0\n" + OVER, HELD, 7);
        fault("r1 = map 3\nr2 = 1\nr3 = 0\ncall 131\nif r0 == 0 goto +0\n" + OVER, HELD, 7);
        fault("r1 = map 3\nr2 = 1\nr3 = 0\ncall 131\n*(u64 *)(r10 - 8) = r0\nr6 = r0\nif r0 == 0 goto +2\nr0 = *(u64 *)(r10 - 8)\nr0 = *(u8 *)(r0 + 0)\n" + OVER, HELD, 11);
    }

    /** ">, >=, <, <= (of 64 bits) of PACKET p and END (either first)". */
    private static void packetTests() {
        String[] less = {"if r4 > r3 goto +1", "if r3 < r4 goto +1", "if r4 <= r3 goto +1", "if r3 >= r4 goto +1",
            "if r4 >= r3 goto +1", "if r3 <= r4 goto +1", "if r4 < r3 goto +1", "if r3 > r4 goto +1"};
        for (int k = 0; k < 8; k++) {
            // the way on which it is inside is the next word, or the other one
            boolean next = k == 0 || k == 1 || k == 4 || k == 5;
            int more = k < 4 ? 0 : 1;
            for (int off : new int[] {-4096, -1, 0, 1, 14, 4095, 4096}) {
                String begin = PACKET + "r4 = r2\nr4 += " + off + "\n";
                good(begin + less[k] + "\ngoto +1\nr0 = 0\n" + OVER);
                int reach = Math.max(0, off + more);
                int inside = next ? 5 : 6;
                int outside = next ? 6 : 5;
                known(inside, 2, 9, reach);
                known(inside, 4, 9, reach);
                known(outside, 2, 9, 0);
                known(outside, 4, 9, 0);
                known(inside, 4, 7, off);
                known(inside, 2, 7, 0);
            }
        }
        // at least: a lesser one takes nothing away
        good(PACKET + "r4 = r2\nr4 += 14\nr5 = r2\nr5 += 8\nif r4 > r3 goto +2\nif r5 > r3 goto +1\nr0 = 0\n" + OVER);
        known(8, 2, 9, 14);
        known(8, 5, 9, 14);
        good(PACKET + "r4 = r2\nr4 += 14\nr5 = r2\nr5 += 8\nif r5 > r3 goto +2\nif r4 > r3 goto +1\nr0 = 0\n" + OVER);
        known(7, 2, 9, 8);
        known(8, 2, 9, 14);
        // other jumps, and of 32 bits
        for (String jump : new String[] {"if r2 == r3", "if r2 != r3", "if r2 & r3", "if r2 s> r3", "if r2 s<= r3", "if w2 > w3", "if w2 <= w3"}) {
            behind(PACKET, jump + " goto +0", KIND);
        }
        behind(PACKET, "if r2 > r2 goto +0", KIND);
        behind(PACKET, "if r3 > r3 goto +0", KIND);
        behind(PACKET + "r4 = 1\n", "if r2 > r4 goto +0", KIND);
        behind(PACKET + "r4 = 1\n", "if r4 > r3 goto +0", KIND);
        behind(PACKET, "if r3 > r10 goto +0", KIND);
        // a part has a TAG of its own, and a REACH of 0
        String part = PACKET + "r7 = *(u32 *)(r1 + 8)\nr7 &= 15\nr4 = r2\nr4 += 10\nif r4 > r3 goto +8\n"
                + "r6 = r2\nr6 += r7\nr5 = r6\nr5 += 4\nif r5 > r3 goto +2\nr0 = 0\nr0 = 0\nr0 = 0\n";
        good(part + OVER);
        known(9, 6, 9, 0);
        known(9, 2, 9, 10);
        known(12, 6, 9, 4);
        known(12, 5, 9, 4);
        known(12, 2, 9, 10);
        known(12, 4, 9, 10);
        // the test of what has TAG 0 tells nothing of the part
        String other = PACKET + "r7 = *(u32 *)(r1 + 8)\nr7 &= 15\nr6 = r2\nr6 += r7\nr4 = r2\nr4 += 10\nif r4 > r3 goto +1\nr0 = 0\n";
        good(other + OVER);
        known(9, 2, 9, 10);
        known(9, 6, 9, 0);
        // each number that is added makes a new TAG
        good(PACKET + "r7 = *(u32 *)(r1 + 8)\nr7 &= 15\nr6 = r2\nr6 += r7\nr8 = r2\nr8 += r7\nr5 = r6\nr5 += 3\nif r5 > r3 goto +1\nr0 = 0\n" + OVER);
        known(11, 6, 9, 3);
        known(11, 8, 9, 0);
        // taken over with a constant: the same TAG
        good(PACKET + "r7 = *(u32 *)(r1 + 8)\nr7 &= 15\nr6 = r2\nr6 += r7\nr8 = r6\nr8 += 7\nif r8 > r3 goto +1\nr0 = 0\n" + OVER);
        known(9, 6, 9, 7);
        known(9, 2, 9, 0);
        // loaded once more, it is of TAG 0, too, and of REACH 0 at first
        good("r6 = r1\n" + PACKET + "r4 = r2\nr4 += 14\nif r4 > r3 goto +2\nr5 = *(u32 *)(r6 + 0)\nr0 = 0\n" + OVER);
        known(7, 5, 9, 0);
        known(7, 2, 9, 14);
        good("r6 = r1\n" + PACKET + "r5 = *(u32 *)(r6 + 0)\nr4 = r2\nr4 += 14\nif r4 > r3 goto +1\nr0 = 0\n" + OVER);
        known(7, 5, 9, 14);
    }

    /** PACKETs of all frames, and on stacks: their REACH; and by helper 44 they are unset. */
    private static void packetsElsewhere() {
        String text = PACKET + "r6 = r2\n*(u64 *)(r10 - 16) = r2\nr1 = r2\nr2 = r3\ncall f\nif r0 == 0 goto +2\nr0 = 0\nexit\nr7 = *(u64 *)(r10 - 16)\n%s\n" + OVER
                + "f: r3 = r1\nr3 += 14\n*(u64 *)(r10 - 8) = r1\nif r3 > r2 goto +3\nr4 = *(u64 *)(r10 - 8)\nr0 = 0\nexit\nr0 = 1\nexit\n";
        good(String.format(text, "r8 = *(u8 *)(r6 + 13)"));
        known(11, 6, 9, 14);
        known(11, 7, 9, 14);
        good(String.format(text, "r8 = *(u8 *)(r7 + 13)"));
        fault(String.format(text, "r8 = *(u8 *)(r6 + 14)"), RANGE, 11);
        int f = 14;
        good(String.format(text, "r8 = 0"));
        known(f + 5, 4, 9, 14);
        known(f + 5, 1, 9, 14);
        // 44 in a function: of all frames, on stacks nothing is set there
        String moved = "r6 = *(u32 *)(r1 + 0)\nr7 = *(u32 *)(r1 + 4)\nr8 = r1\n*(u64 *)(r10 - 8) = r6\n*(u64 *)(r10 - 16) = r7\n*(u64 *)(r10 - 24) = r1\n*(u32 *)(r10 - 28) = 5\ncall f\n%s\n"
                + OVER + "f: r2 = 0\n*(u64 *)(r10 - 8) = r1\ncall 44\nr0 = 0\nexit\n";
        fault(String.format(moved, "r9 = r6"), UNSET, 8);
        fault(String.format(moved, "r9 = r7"), UNSET, 8);
        good(String.format(moved, "r9 = *(u32 *)(r8 + 0)"));
        fault(String.format(moved, "r9 = *(u64 *)(r10 - 8)"), BYTES, 8);
        fault(String.format(moved, "r9 = *(u8 *)(r10 - 8)"), BYTES, 8);
        fault(String.format(moved, "r9 = *(u64 *)(r10 - 16)"), BYTES, 8);
        good(String.format(moved, "r9 = *(u64 *)(r10 - 24)"));
        good(String.format(moved, "r9 = *(u32 *)(r10 - 28)"));
        // and in the function's own frame
        String own = "call f\nexit\nf: r6 = *(u32 *)(r1 + 0)\nr7 = *(u32 *)(r1 + 4)\n*(u64 *)(r10 - 8) = r6\n*(u64 *)(r10 - 128) = r7\nr2 = 0\ncall 44\n%s\n" + OVER;
        fault(String.format(own, "r9 = r6"), UNSET, 8);
        fault(String.format(own, "r9 = r7"), UNSET, 8);
        fault(String.format(own, "r9 = *(u64 *)(r10 - 8)"), BYTES, 8);
        fault(String.format(own, "r9 = *(u64 *)(r10 - 128)"), BYTES, 8);
        good(String.format(own, "r9 = 0"));
    }

    /** "A STATE: 1 to 4 FRAMES"; "13 DEEP: a 5th frame"; a STACK value into the stack of a lesser frame than its own. */
    private static void frames() {
        for (int calls = 0; calls <= 5; calls++) {
            String text = "call +1\nexit\n".repeat(calls) + OVER;
            fault(text, calls >= 4 ? DEEP : 0, calls >= 4 ? 6 : -1);
            House.due("most frames with " + calls + " calls", house.house.told(5), Math.min(4, calls + 1));
        }
        // one behind the other they are no deeper
        good("call f\ncall f\ncall f\ncall f\ncall f\nexit\nf: r0 = 0\nexit");
        House.due("most frames", house.house.told(5), 2);
        // the frame of a place
        String deep = "r1 = r10\ncall a\nr0 = 0\nexit\na: r2 = r10\ncall b\nr0 = 0\nexit\nb: r3 = r10\ncall c\nr0 = 0\nexit\nc: %s\nr0 = 0\nexit\n";
        good(String.format(deep, "r4 = r10"));
        for (int r = 1; r <= 4; r++) {
            known(13, r, 8, r - 1);
            known(13, r, 0, 3);
        }
        for (int from = 1; from <= 4; from++) {
            for (int to = 1; to <= 4; to++) {
                String put = "r4 = r10\n*(u64 *)(r" + to + " - 8) = r" + from;
                fault(String.format(deep, put), from > to ? LEAK : 0, from > to ? 13 : -1);
            }
        }
        // what a function gets: r1 .. r5; all others, its stack are unset
        for (int r = 0; r <= 9; r++) {
            String all = "r0 = 1\nr2 = 1\nr3 = 1\nr4 = 1\nr5 = 1\nr6 = 1\nr7 = 1\nr8 = 1\nr9 = 1\n*(u64 *)(r10 - 8) = 1\n";
            boolean got = r >= 1 && r <= 5;
            fault(all + "call f\nexit\nf: r0 = r" + r + "\nr0 = 0\nexit", got ? 0 : UNSET, got ? -1 : 12);
            // at its EXIT r0 is that, r1 .. r5 are unset, the others are there again
            fault(all + "call f\nr9 = r" + r + "\nexit\nf: r0 = 7\nr6 = 2\nr7 = 2\nr8 = 2\nr9 = 2\nexit", got ? UNSET : 0, got ? 11 : -1);
        }
        known(11, 0, 1, 7);
        known(11, 6, 1, 1);
        known(11, 9, 1, 1);
        fault("call f\nexit\nf: r0 = *(u8 *)(r10 - 1)\nexit", BYTES, 2);
        // out of a FUNCTION no other VALUE; r0 unset
        fault("call f\nexit\nf: r0 = r1\nexit", LEAK, 3);
        fault("call f\nexit\nf: exit", UNSET, 2);
        fault("r6 = r1\ncall f\nexit\nf: " + KEY + "r1 = map 0\ncall 1\nexit", LEAK, 3 + words(KEY) + 3);
        // a second call has a new stack
        fault("call f\ncall g\nexit\nf: *(u64 *)(r10 - 8) = 1\nr0 = 0\nexit\ng: r0 = *(u64 *)(r10 - 8)\nexit", BYTES, 6);
        // no HELD in a function
        fault("call f\nexit\nf: " + record(8) + OVER, HELD, 1);
        // 12 in one frame alone
        fault("r6 = r1\ncall f\nexit\nf: r2 = map 2\nr3 = 0\ncall 12\nr0 = 0\nexit", CALL, 6);
    }

    private static String between(int low, int high) {
        return "r6 = *(u32 *)(r1 + 8)\nif r6 >= " + low + " goto +2\nr0 = 0\nexit\nif r6 <= " + high + " goto +2\nr0 = 0\nexit\n";
    }

    private static String stack(int bytes) {
        StringBuilder text = new StringBuilder();
        for (int a = 8; a <= bytes; a += 8) {
            text.append("*(u64 *)(r10 - ").append(a).append(") = 5\n");
        }
        return text.toString();
    }

    /** "6: BYTES U2 of r2, which is looked at first: a NUMBER, U1 1 at least, U2 64 at most." */
    private static void helperSix() {
        String begin = stack(64) + "r1 = r10\nr1 += -%d\nr2 = %d\n";
        for (int n : new int[] {-1, 0, 1, 2, 63, 64, 65, Integer.MAX_VALUE, Integer.MIN_VALUE}) {
            int at = n >= 1 && n <= 64 ? n : 8;
            behind(String.format(begin, at, n), "call 6", n >= 1 && n <= 64 ? 0 : CALL);
        }
        for (int[] range : new int[][] {{0, 64, CALL}, {1, 64, 0}, {1, 65, CALL}, {64, 64, 0}, {2, 9, 0}, {1, 1, 0}}) {
            behind(between(range[0], range[1]) + stack(64) + "r1 = r10\nr1 += -64\nr2 = r6\n", "call 6", range[2]);
        }
        // as many as U2 must be there
        behind(between(1, 9) + stack(16) + "r1 = r10\nr1 += -9\nr2 = r6\n", "call 6", 0);
        behind(between(1, 9) + stack(16) + "r1 = r10\nr1 += -8\nr2 = r6\n", "call 6", RANGE);
        behind(between(1, 9) + stack(8) + "r1 = r10\nr1 += -9\nr2 = r6\n", "call 6", BYTES);
        behind(cell(0) + "r1 = r0\nr2 = 8\n", "call 6", 0);
        behind(cell(0) + "r1 = r0\nr2 = 9\n", "call 6", RANGE);
        behind(cell(0) + "r1 = r0\nr1 += 1\nr2 = 8\n", "call 6", RANGE);
        behind(cell(0) + "r1 = r0\nr1 += -1\nr2 = 1\n", "call 6", RANGE);
        behind(cell(5) + "r1 = r0\nr2 = 64\n", "call 6", 0);
        String near = PACKET + "r4 = r2\nr4 += 12\nif r4 <= r3 goto +2\nr0 = 0\nexit\nr1 = r2\n";
        behind(near + "r2 = 12\n", "call 6", 0);
        behind(near + "r2 = 13\n", "call 6", RANGE);
        for (String other : new String[] {"r1 = 5\n", "r1 = map 0\n", "r1 = *(u32 *)(r1 + 4)\n", ""}) {
            behind(other + "r2 = 1\n", "call 6", CALL);
        }
        // r2 first
        behind("r2 = r10\n", "call 6", CALL);
        behind("r6 = r1\ncall 5\nr2 = 65\n", "call 6", CALL);
        behind("r6 = r1\ncall 5\nr2 = 64\n", "call 6", UNSET);
        behind(KEY + "r1 = map 0\ncall 1\nr1 = r0\nr2 = 65\n", "call 6", CALL);
        behind(KEY + "r1 = map 0\ncall 1\nr1 = r0\nr2 = 1\n", "call 6", NULL);
        behind(KEY + "r1 = map 0\ncall 1\nr2 = r0\n", "call 6", NULL);
        // what is behind: r0 ANY, r1 .. r5 unset
        good(stack(8) + "r3 = 1\nr4 = 1\nr5 = 1\nr1 = r10\nr1 += -8\nr2 = 8\ncall 6\nr0 = r0\n" + OVER);
        knownNumber(8, 0, 0, -1, 0, -1, Long.MIN_VALUE, Long.MAX_VALUE);
        for (int r = 1; r <= 5; r++) {
            known(8, r, 0, 0);
        }
    }

    /** "26: CONTEXT, a NUMBER, STACK with r4's U2 bytes there (r4, a NUMBER 1 .. 128, is looked at before r3) ..". */
    private static void helperTwentySix() {
        for (int n : new int[] {-1, 0, 1, 2, 127, 128, 129, Integer.MIN_VALUE}) {
            boolean in = n >= 1 && n <= 128;
            behind("r2 = 0\nr3 = r10\nr3 += -128\nr4 = " + n + "\n", "call 26", in ? 0 : CALL);
        }
        for (int[] range : new int[][] {{0, 128, CALL}, {1, 128, 0}, {1, 129, CALL}, {128, 128, 0}}) {
            behind(between(range[0], range[1]) + "r2 = 0\nr3 = r10\nr3 += -128\nr4 = r6\n", "call 26", range[2]);
        }
        behind("r2 = 0\nr3 = r10\nr3 += -127\nr4 = 128\n", "call 26", RANGE);
        behind("r2 = 0\nr3 = r10\nr3 += -129\nr4 = 1\n", "call 26", RANGE);
        behind("r2 = 0\nr3 = r10\nr4 = 1\n", "call 26", RANGE);
        behind(between(1, 9) + "r2 = 0\nr3 = r10\nr3 += -8\nr4 = r6\n", "call 26", RANGE);
        behind(between(1, 8) + "r2 = 0\nr3 = r10\nr3 += -8\nr4 = r6\n", "call 26", 0);
        for (String other : new String[] {"r3 = r1", "r3 = map 0", "r3 = 5", "r3 = *(u32 *)(r1 + 0)"}) {
            behind("r2 = 0\n" + other + "\nr4 = 4\n", "call 26", CALL);
        }
        behind("r6 = r1\n" + cell(0) + "r1 = r6\nr2 = 0\nr3 = r0\nr4 = 4\n", "call 26", CALL);
        behind("r6 = r1\n" + KEY + "r1 = map 0\ncall 1\nr1 = r6\nr2 = 0\nr3 = r0\nr4 = 4\n", "call 26", NULL);
        behind("r1 = 5\nr2 = 0\nr3 = r10\nr3 += -8\nr4 = 4\n", "call 26", CALL);
        behind("r2 = r10\nr3 = r10\nr3 += -8\nr4 = 4\n", "call 26", CALL);
        behind("r3 = r10\nr3 += -8\nr4 = 4\n", "call 26", UNSET);
        // r4 ahead of r3
        behind("r2 = 0\nr3 = 5\nr4 = 0\n", "call 26", CALL);
        behind("r2 = 0\n", "call 26", UNSET);
        behind("r2 = 0\nr4 = 129\n", "call 26", CALL);
        behind("r2 = 0\nr3 = r10\nr4 = r10\n", "call 26", CALL);
        // "the first U1 of these are set then": 3 .. 6 bytes at -16
        String some = between(3, 6) + "%sr2 = 0\nr3 = r10\nr3 += -16\nr4 = r6\ncall 26\n";
        for (int b = 0; b < 8; b++) {
            String read = "r8 = *(u8 *)(r10 - " + (16 - b) + ")";
            behind(String.format(some, ""), read, b < 3 ? 0 : BYTES);
            // a VALUE: set bytes from then on, none but these, if that was no NUMBER
            behind(String.format(some, "*(u64 *)(r10 - 16) = 5\n"), read, 0);
            behind(String.format(some, "*(u64 *)(r10 - 16) = r1\n"), read, b < 3 ? 0 : BYTES);
            // other bytes are as they were
            behind(String.format(some, "*(u16 *)(r10 - 12) = 5\n"), read, b < 3 || b == 4 || b == 5 ? 0 : BYTES);
            behind(String.format(some, "*(u16 *)(r10 - 10) = 5\n"), read, b < 3 || b == 6 || b == 7 ? 0 : BYTES);
        }
        // a part that just bytes behind U1 touch has no VALUE from then on, too
        String far = between(3, 12) + "*(u64 *)(r10 - 8) = %s\n*(u64 *)(r10 - 24) = r1\nr2 = 0\nr3 = r10\nr3 += -16\nr4 = r6\ncall 26\n";
        behind(String.format(far, "r1"), "r8 = *(u64 *)(r10 - 8)", BYTES);
        behind(String.format(far, "r1"), "r8 = *(u8 *)(r10 - 1)", BYTES);
        behind(String.format(far, "5"), "r8 = *(u64 *)(r10 - 8)", 0);
        good(String.format(far, "5") + "r8 = *(u64 *)(r10 - 8)\nr9 = *(u64 *)(r10 - 24)\nr0 = 0\nexit");
        int at = words(String.format(far, "5"));
        known(at + 2, 8, 2, -1);
        known(at + 2, 9, 0, 2);
        // one that they do not touch keeps it
        String near = between(3, 8) + "*(u64 *)(r10 - 8) = r1\nr2 = 0\nr3 = r10\nr3 += -16\nr4 = r6\ncall 26\n";
        good(near + "r8 = *(u64 *)(r10 - 8)\n" + OVER);
        known(words(near) + 1, 8, 0, 2);
        // "all, if U1 is above U2": V 2 and M 0, but U 2 .. 1, is the number of bytes
        String odd = "r7 = *(u32 *)(r1 + 8)\nr7 &= 4\nr7 |= 1\nif r7 > 4 goto E\nif r7 < 3 goto E\nr7 -= 3\n";
        String end = "E: r0 = 0\nexit\n";
        String read = odd + "r2 = 0\nr3 = r10\nr3 += -16\nr4 = r7\ncall 26\n%s\n" + end;
        good(String.format(read, "r8 = *(u8 *)(r10 - 16)"));
        known(6, 7, 1, 2);
        known(6, 7, 2, 0);
        known(6, 7, 3, 2);
        known(6, 7, 4, 1);
        known(6, 7, 5, 2);
        known(6, 7, 6, 1);
        fault(String.format(read, "r8 = *(u8 *)(r10 - 15)"), BYTES, 11);
    }

    /** "44: CONTEXT, a NUMBER". */
    private static void helperFortyFour() {
        behind("r2 = 0\n", "call 44", 0);
        behind("r2 = *(u32 *)(r1 + 0)\n", "call 44", CALL);
        behind("r2 = 0\nr1 = 0\n", "call 44", CALL);
        behind("", "call 44", UNSET);
        behind("r2 = 0\ncall 5\n", "call 44", UNSET);
        // maps, cells, the context stay what they are
        good("r6 = r1\n" + cell(0) + "r7 = r0\nr8 = map 1\nr1 = r6\nr2 = 3\ncall 44\nr9 = r6\nr9 = *(u64 *)(r7 + 0)\n" + OVER);
    }

    /** "131: a map of RECORDS, a constant 1 .. 64, a NUMBER"; "132, 133: RECORD, OFF 0, PART the constant 0, a NUMBER". */
    private static void helperRecords() {
        for (int n : new int[] {Integer.MIN_VALUE, -1, 0, 65, 66, 128, Integer.MAX_VALUE}) {
            behind("r1 = map 3\nr2 = " + n + "\nr3 = 0\n", "call 131", CALL);
        }
        for (int n : new int[] {1, 2, 63, 64}) {
            good(record(n) + RELEASE + OVER);
            known(8, 0, 0, 9);
            known(8, 0, 8, n);
            known(8, 0, 7, 0);
            known(5, 0, 0, 10);
            known(5, 0, 8, n);
        }
        behind("r2 = 4294967297 ll\nr1 = map 3\nr3 = 0\n", "call 131", CALL);
        behind(between(1, 64) + "r2 = r6\nr1 = map 3\nr3 = 0\n", "call 131", CALL);
        behind("r2 = *(u32 *)(r1 + 8)\nr2 &= 2\nr2 |= 1\nr1 = map 3\nr3 = 0\n", "call 131", CALL);
        // a constant that jumps made is one, too; then the record is held at the EXIT
        String eight = between(8, 8) + "r2 = r6\nr1 = map 3\nr3 = 0\ncall 131\n";
        fault(eight + OVER, HELD, words(eight) + 1);
        behind(between(8, 8) + "r2 = r6\nr2 += 57\nr1 = map 3\nr3 = 0\n", "call 131", CALL);
        for (int m : new int[] {0, 1, 2, 4, 5}) {
            behind("r1 = map " + m + "\nr2 = 8\nr3 = 0\n", "call 131", CALL);
        }
        behind("r2 = 8\nr3 = 0\n", "call 131", CALL);
        behind("r1 = map 3\nr2 = 8\n", "call 131", UNSET);
        behind("r1 = map 3\nr2 = 8\nr3 = r10\n", "call 131", CALL);
        for (int helper : new int[] {132, 133}) {
            String call = "call " + helper;
            behind(record(8) + "r1 = r0\nr1 += 1\nr2 = 0\n", call, CALL);
            behind(record(8) + "r1 = r0\nr1 += -1\nr2 = 0\n", call, CALL);
            behind("r6 = r1\n" + record(8) + "r7 = *(u32 *)(r6 + 8)\nr7 &= 1\nr1 = r0\nr1 += r7\nr2 = 0\n", call, CALL);
            behind(record(8) + "r1 = r0\n", call, UNSET);
            behind(record(8) + "r1 = r0\nr2 = r10\n", call, CALL);
            behind("r1 = map 3\nr2 = 8\nr3 = 0\ncall 131\nr1 = r0\nr2 = 0\n", call, NULL);
            behind(cell(0) + "r1 = r0\nr2 = 0\n", call, CALL);
            behind("r1 = r10\nr2 = 0\n", call, CALL);
            good(record(8) + "r1 = r0\nr2 = 0\n" + call + "\n" + OVER);
            // all VALUES with its TAG are unset likewise: in registers, on stacks (nothing is set there)
            String two = record(8) + "r6 = r0\n*(u64 *)(r10 - 8) = r0\nr7 = r0\nr7 += 3\nr1 = r0\nr2 = 0\n" + call + "\n";
            behind(two, "r8 = r6", UNSET);
            behind(two, "r8 = r7", UNSET);
            behind(two, "r8 = *(u64 *)(r10 - 8)", BYTES);
            behind(two, "r8 = *(u8 *)(r10 - 5)", BYTES);
            behind(two + "r2 = 0\n", call, UNSET);
            // of all frames
            String deep = record(8) + "r6 = r0\n*(u64 *)(r10 - 8) = r0\nr1 = r0\ncall f\n%s\n" + OVER + "f: r2 = 0\n" + call + "\nr0 = 0\nexit\n";
            fault(String.format(deep, "r8 = r6"), UNSET, 12);
            fault(String.format(deep, "r8 = *(u64 *)(r10 - 8)"), BYTES, 12);
            good(String.format(deep, "r8 = 0"));
            // another record stays
            String other = record(8) + "r6 = r0\nr1 = map 3\nr2 = 4\nr3 = 0\ncall 131\nif r0 == 0 goto +5\n*(u64 *)(r10 - 8) = r0\nr1 = r0\nr2 = 0\n" + call
                    + "\nr8 = *(u64 *)(r6 + 0)\nr1 = r6\nr2 = 0\ncall 133\n" + OVER;
            good(other);
        }
    }

    /** "the state is kept (the 251st: MUCH)". */
    private static void kept() {
        for (int n : new int[] {248, 249, 250, 251, 300}) {
            boolean much = n > 249;
            fault("r6 = 0\nL: r6 += 1\nif r6 < " + n + " goto L\nr0 = 0\nexit", much ? MUCH : 0, much ? 1 : -1);
            House.due("kept", house.house.told(2), much ? 250 : n + 1);
            House.due("gone", house.house.told(1), much ? 499 : 1 + 2 * n + 2);
        }
        // with 250 kept: at one that a DONE state covers a way ends, at one that a not DONE one covers it is LOOP
        String ends = "call 5\nr6 = %d\nif r0 == 3 goto M\nr6 = 0\nL: r6 += 1\nif r6 < 248 goto L\nM: r7 = 0\nr0 = 0\nexit\n";
        good(String.format(ends, 248));
        House.due("kept", house.house.told(2), 250);
        fault(String.format(ends, 247), MUCH, 6);
        House.due("kept", house.house.told(2), 250);
        fault("r6 = 0\nL: r6 += 1\nif r6 < 249 goto L\nM: goto M\n", MUCH, 3);
        fault("r6 = 0\nL: r6 += 1\nif r6 < 248 goto L\nM: goto M\n", LOOP, 3);
        House.due("kept", house.house.told(2), 250);
    }

    private static String waits(int n, int from) {
        StringBuilder text = new StringBuilder();
        for (int i = 0; i < n; i++) {
            text.append("if r6 == ").append(from + 3 * i).append(" goto E\n");
        }
        return text.toString();
    }

    /** "the other way WAITS (the 61st: MUCH)". */
    private static void waiting() {
        String begin = "r6 = *(u32 *)(r1 + 8)\nr0 = 0\n";
        for (int n : new int[] {59, 60, 61, 70}) {
            boolean much = n > 60;
            fault(begin + waits(n, 1000) + "E: exit\n", much ? MUCH : 0, much ? 62 : -1);
            House.due("waited", house.house.told(4), Math.min(n, 60));
            House.due("gone", house.house.told(1), much ? 63 : 2 + n + 1);
            if (much) {
                known(62, 6, 0, 1);
                known(63, 6, 0, -1);
            }
        }
        // with 60 that wait: a jump that is decided, one of whose ways has NOTHING, one of a pointer
        good(begin + waits(60, 1000) + "r7 = 5\nif r7 == 5 goto E\nr0 = r9\nE: exit\n");
        good(begin + waits(60, 1000) + "if r1 == 0 goto E\nE: exit\n");
        fault(begin + waits(60, 1000) + "r2 = *(u32 *)(r1 + 0)\nr3 = *(u32 *)(r1 + 4)\nif r2 > r3 goto E\nE: exit\n", MUCH, 64);
        fault(begin + waits(60, 1000) + "if r6 > r6 goto E\nE: exit\n", MUCH, 62);
        // ways that ended wait no more
        StringBuilder again = new StringBuilder(begin);
        for (int i = 0; i < 30; i++) {
            again.append("if r6 != ").append(7 + i).append(" goto +1\nexit\n");
        }
        good(again + "exit\n");
        House.due("waited", house.house.told(4), 1);
    }

    /** "Each instruction that is gone counts ..: the 4001st: MUCH (it does not count)". */
    private static void gone() {
        String loop = "r6 = 0\nr0 = 0\nL: " + "r7 = 1\n".repeat(14) + "r6 += 1\nif r6 < 249 goto L\n";
        int ahead = 2 + 16 * 249;
        for (int more : new int[] {12, 13, 14, 15, 16, 40}) {
            int n = ahead + more + 1;
            fault(loop + "r7 = 2\n".repeat(more) + "exit", n > 4000 ? MUCH : 0, n > 4000 ? 18 + 4000 - ahead : -1);
            House.due("gone", house.house.told(1), Math.min(n, 4000));
            if (n <= 4000) {
                House.due("LONGEST", house.house.told(3), n);
            } else {
                known(18 + 4000 - ahead, 6, 0, -1);
                known(18 + 4000 - ahead - 1, 6, 1, 249);
            }
        }
        // the 4000th one has a fault: that is told; the 4001st would have one: MUCH
        fault(loop + "r7 = 2\n".repeat(13) + "r7 = r9\nexit", UNSET, 18 + 13);
        House.due("gone", house.house.told(1), 4000);
        fault(loop + "r7 = 2\n".repeat(14) + "r7 = r9\nexit", MUCH, 18 + 14);
        House.due("gone", house.house.told(1), 4000);
        // with 4000 gone a way that a DONE state covers ends, and no 4001st is wanted
        for (int n : new int[] {147, 148}) {
            String covered = "r6 = 0\ncall 5\nr9 = r0\nif r9 == 7 goto W\nr9 = 0\nr0 = 0\nr7 = 0\ngoto M\nW: r9 = 0\nr0 = 0\n"
                    + "L: " + "r7 = 1\n".repeat(14) + "r6 += 1\nif r6 < 240 goto L\n" + "r7 = 0\n".repeat(n) + "r6 = 0\nM: r8 = 0\nexit\n";
            fault(covered, n == 147 ? 0 : MUCH, n == 147 ? -1 : 174);
            House.due("gone", house.house.told(1), 4000);
        }
    }

    /** "it is held (the 65th at a time: MUCH)". */
    private static void heldMost() {
        String hold = "r6 = 0\nL: r1 = map 6\nr2 = 8\nr3 = 0\ncall 131\nr6 += 1\nif r6 < %d goto L\nr0 = 0\nexit";
        fault(String.format(hold, 63), HELD, 9);
        fault(String.format(hold, 64), HELD, 9);
        fault(String.format(hold, 65), MUCH, 5);
        House.due("gone", house.house.told(1), 1 + 64 * 6 + 4);
        // at a time: given back, there may be more
        String back = "r6 = 0\nL: r1 = map 6\nr2 = 8\nr3 = 0\ncall 131\nif r0 != 0 goto +2\nr0 = 0\nexit\nr1 = r0\nr2 = 0\ncall 133\nr6 += 1\nif r6 < 80 goto L\nr0 = 0\nexit";
        good(back);
    }

    /** "a way with NOTHING is not gone". */
    private static void nothing() {
        // r6 is 1 or 5; between 3 and 4 there is none of them, but no range is empty
        String begin = "r6 = *(u32 *)(r1 + 8)\nr0 = 0\nr6 &= 4\nr6 |= 1\n";
        String none = begin + "if r6 > 4 goto E\nif r6 < 3 goto E\n";
        good(none + "r7 = 1\nE: exit");
        knownNumber(6, 6, 1, 4, 3, 4, 3, 4);
        // of neither way: the way ends
        good(none + "if r6 > 3 goto F\nr0 = r9\nF: r0 = r9\nE: exit");
        known(6, 6, 0, 1);
        known(7, 6, 0, -1);
        known(8, 6, 0, -1);
        House.due("gone", house.house.told(1), 6 + 1 + 2);
        House.due("LONGEST", house.house.told(3), 7);
        // just the one where it is so; just the other
        good(begin + "if r6 < 3 goto E\nif r6 > 3 goto F\nr0 = r9\nF: r7 = r6\nE: exit");
        known(6, 6, 0, -1);
        knownNumber(7, 6, 5, 0, 5, 5, 5, 5);
        good(begin + "if r6 > 4 goto E\nif r6 > 3 goto F\nr7 = r6\ngoto E\nF: r0 = r9\nE: exit");
        knownNumber(6, 6, 1, 0, 1, 1, 1, 1);
        known(8, 6, 0, -1);
        // it does not wait: with 60 others it is no MUCH
        House.due("waited", house.house.told(4), 1);
        // of a second register that is narrowed, too
        good("r7 = 3\n" + none + "if r7 >= r6 goto F\nr8 = r6\ngoto E\nF: r0 = r9\nE: exit");
        known(8, 7, 0, -1);
        known(10, 7, 0, -1);
        good("r7 = *(u32 *)(r1 + 8)\nr7 &= 3\n" + none + "if r7 >= r6 goto F\nr8 = r6\ngoto E\nF: r0 = r9\nE: exit");
        known(11, 7, 0, -1);
        // "x & y: if y is a constant of a single bit: x has it": it may have been known otherwise by the ranges alone
        good("r6 = *(u32 *)(r1 + 8)\nr0 = 0\nif r6 > 9 goto E\nif r6 & 16 goto F\nr7 = r6\ngoto E\nF: r0 = r9\nE: exit");
        known(6, 6, 0, -1);
    }

    /** What is known of r6 behind this. */
    private static void makes(String text, long... due) {
        String begin = "call 5\nr6 = r0\nr7 = r0\nr8 = r0\nr0 = 0\n" + text + "\n";
        good(begin + "r0 = 1\nE: exit");
        knownNumber(words("E: " + begin), 6, due);
    }

    private static final long TOP = Long.MIN_VALUE;
    private static final long MAX = Long.MAX_VALUE;

    /** "each range whole if one of its sums runs over", "whole if y.U2 is above x.U1", "if both U2 are at most F". */
    private static void runOver() {
        String signs = "r6 = (s8) r6\nr7 = (s8) r7\n";
        makes(signs + "r8 = " + (TOP + 128) + " ll\nr6 += r8", TOP, 255, TOP, TOP + 255, TOP, TOP + 255);
        makes(signs + "r8 = " + (TOP + 127) + " ll\nr6 += r8", 0, -1, 0, -1, TOP, MAX);
        makes(signs + "r8 = " + (MAX - 127) + " ll\nr6 += r8", MAX - 255, 255, MAX - 255, MAX, MAX - 255, MAX);
        makes(signs + "r8 = " + (MAX - 126) + " ll\nr6 += r8", 0, -1, 0, -1, TOP, MAX);
        makes(signs + "r8 = " + (TOP + 128) + " ll\nr6 -= r8", MAX - 255, 255, MAX - 255, MAX, MAX - 255, MAX);
        makes(signs + "r8 = " + (TOP + 127) + " ll\nr6 -= r8", 0, -1, 0, -1, TOP, MAX);
        makes(signs + "r8 = " + (MAX - 127) + " ll\nr6 -= r8", TOP, 255, TOP, TOP + 255, TOP, TOP + 255);
        makes(signs + "r8 = " + (MAX - 126) + " ll\nr6 -= r8", 0, -1, 0, -1, TOP, MAX);
        // no sum of numbers with the same signs, or with others, runs over by itself
        String less = signs + "if r6 s< -10 goto E\nif r6 s> -5 goto E\n";
        makes(less + "r6 -= r7", 0, -1, 0, -1, -137, 123);
        makes(less + "r6 += r7", 0, -1, 0, -1, -138, 122);
        makes(less + "r7 -= r6\nr6 = r7", 0, -1, 0, -1, -123, 137);
        String more = signs + "if r6 s< 5 goto E\nif r6 s> 10 goto E\n";
        makes(more + "r6 -= r7", 0, -1, 0, -1, -122, 138);
        makes(more + "r6 += r7", 0, -1, 0, -1, -123, 137);
        // U: up to 2^64 - 1, and one more; S is not whole then
        makes("r6 &= 15\nr6 += -16", -16, 15, -16, -1, -16, -1);
        makes("r6 &= 15\nr6 += -15", 0, -1, 0, -1, -15, 0);
        makes("r6 &= 15\nr6 -= 16", -16, 15, -16, -1, -16, -1);
        makes("r6 &= 15\nr6 -= 1", 0, -1, 0, -1, -1, 14);
        makes("r6 &= 15\nr6 -= 0", 0, 15, 0, 15, 0, 15);
        String two = "r6 &= 15\nr6 += 16\nr7 &= 31\nif r7 > %d goto E\nr6 -= r7";
        makes(String.format(two, 16), 0, 31, 0, 31, 0, 31);
        makes(String.format(two, 17), 0, -1, 0, -1, -1, 31);
        // products: F by F, and F by F + 1
        long f = 0xFFFFFFFFL;
        makes("w6 = w6\nw7 = w7\nr6 *= r7", 0, -1, 0, f * f, TOP, MAX);
        makes("w6 = w6\nr8 = " + f + " ll\nif r7 > r8 goto E\nr6 *= r7", 0, -1, 0, f * f, TOP, MAX);
        makes("w6 = w6\nr8 = " + (f + 1) + " ll\nif r7 > r8 goto E\nr6 *= r7", 0, -1, 0, -1, TOP, MAX);
        makes("w7 = w7\nr8 = " + (f + 1) + " ll\nif r6 > r8 goto E\nr6 *= r7", 0, -1, 0, -1, TOP, MAX);
        // both constant: the product, whatever runs over
        makes("r6 = -1\nr6 *= -1", 1, 0, 1, 1, 1, 1);
        makes("r6 = 0x100000001 ll\nr7 = r6\nr6 *= r7", 0x200000001L, 0, 0x200000001L, 0x200000001L, 0x200000001L, 0x200000001L);
        makes("w6 = -1\nw6 *= w6", 1, 0, 1, 1, 1, 1);
        // lowest 0s: together 63, and 64
        makes("r6 <<= 31\nr7 <<= 32\nr6 *= r7", 0, TOP, 0, TOP, TOP, 0);
        makes("r6 <<= 32\nr7 <<= 32\nr6 *= r7", 0, 0, 0, 0, 0, 0);
        makes("r6 <<= 1\nr6 *= 0", 0, 0, 0, 0, 0, 0);
        // U moved, if U2 loses no bits
        makes("r6 &= 7\nr6 += 1\nr6 <<= 60", 0, -1L << 60, 1L << 60, TOP, TOP, MAX & -1L << 60);
        makes("r6 &= 7\nr6 += 1\nif r6 == 8 goto E\nr6 <<= 60", 0, 7L << 60, 1L << 60, 7L << 60, 1L << 60, 7L << 60);
        makes("r6 &= 7\nr6 += 1\nr6 <<= 61", 0, -1L << 61, 0, -1L << 61, TOP, MAX & -1L << 61);
        makes("r6 <<= 0", 0, -1, 0, -1, TOP, MAX);
        makes("r6 &= 1\nr6 <<= 63", 0, TOP, 0, TOP, TOP, 0);
        makes("r6 >>= 63", 0, 1, 0, 1, 0, 1);
        makes("r6 s>>= 63", 0, -1, 0, -1, -1, 0);
        makes("w6 <<= 31", 0, 1L << 31, 0, 1L << 31, 0, 1L << 31);
        makes("w6 >>= 31", 0, 1, 0, 1, 0, 1);
        makes("w6 >>= 0", 0, f, 0, f, 0, f);
        // / and % by a constant 0, by what may be 0, the least number by -1
        makes("r6 = 7\nr7 = 0\nr6 /= r7", 0, 0, 0, 0, 0, 0);
        makes("r6 = 7\nr7 = 0\nr6 s/= r7", 0, 0, 0, 0, 0, 0);
        makes("r6 = 7\nr7 = 0\nr6 %= r7", 7, 0, 7, 7, 7, 7);
        makes("r6 = 7\nr7 = 0\nr6 s%= r7", 7, 0, 7, 7, 7, 7);
        makes("r6 &= 7\nr7 = 0\nr6 /= r7", 0, 7, 0, 7, 0, 7);
        makes("r6 &= 6\nr7 = 0\nr6 %= r7", 0, 7, 0, 6, 0, 6);
        makes("r6 &= 6\nr6 /= r7", 0, 7, 0, 6, 0, 6);
        makes("r6 &= 6\nr6 %= r7", 0, 7, 0, 6, 0, 6);
        makes("r6 = -9223372036854775808 ll\nr6 s/= -1", TOP, 0, TOP, TOP, TOP, TOP);
        makes("r6 = -9223372036854775808 ll\nr6 s%= -1", 0, 0, 0, 0, 0, 0);
        makes("w6 = 0x80000000\nw6 s/= -1", 1L << 31, 0, 1L << 31, 1L << 31, 1L << 31, 1L << 31);
        makes("r6 &= 1\nr6 s/= 1", 0, -1, 0, -1, TOP, MAX);
        makes("r6 &= 1\nw6 s%= 1", 0, f, 0, f, 0, f);
        makes("r6 = - r6", 0, -1, 0, -1, TOP, MAX);
        makes("r6 = -9223372036854775808 ll\nr6 = - r6", TOP, 0, TOP, TOP, TOP, TOP);
        // CUT: U, if it is the same above the lowest 32 bits at both ends
        makes("r6 &= 7\nr8 = " + (f + 1) + " ll\nr6 |= r8\nw6 = w6", 0, 7, 0, 7, 0, 7);
        makes("r6 &= 7\nr8 = " + (f - 3) + " ll\nr6 += r8\nw6 = w6", 0, f, 0, f, 0, f);
        makes("r6 &= 3\nr8 = " + (f - 3) + " ll\nr6 += r8\nw6 = w6", f - 3, 3, f - 3, f, f - 3, f);
    }

    /** "the states that are kept there are looked at in their order; by the first one that COVERS the state at hand". */
    private static void coveringOrder() {
        // the first one is not DONE, the second one is: LOOP
        fault("call 5\nr7 = r0\nr6 = 5\nL: if r7 == 5 goto E\ncall 5\nif r0 == 1 goto B\nr6 = r0\nr7 = 5\ngoto L\nB: r7 = 5\ngoto L\nE: r0 = 0\nexit", LOOP, 3);
        House.due("kept", house.house.told(2), 5);
        // the first one is DONE, the second one is not: the way ends
        good("call 5\nif r0 == 3 goto A\nr6 = r0\nr7 = 5\ngoto L\nA: call 5\nr6 = 5\nr7 = r0\nL: if r7 == 5 goto E\nr7 = 5\ngoto L\nE: r0 = 0\nexit");
        // none of two
        fault("r6 = 1\nr7 = 0\nL: r7 = 1\nif r6 == 9 goto L\nr6 = 2\nM: goto L\n", LOOP, 2);
        // behind its beginning: the JOIN at 0 is looked at when it comes again
        fault("goto -1", LOOP, 0);
        House.due("gone", house.house.told(1), 1);
        House.due("kept", house.house.told(2), 1);
        good("r6 = 5\nif r6 == 6 goto -2\n" + OVER);
        House.due("kept", house.house.told(2), 1);
        fault("r6 = 5\nif r6 == 5 goto -2\n" + OVER, LOOP, 0);
        House.due("gone", house.house.told(1), 2);
        // JOINs are where jumps lead, also those that nothing goes along; no FUNCTION does
        good("call f\nexit\nf: r0 = 0\nexit\n");
        House.due("kept", house.house.told(2), 1);
        good("r6 = 1\nr0 = 0\nexit\ngoto -3");
        House.due("kept", house.house.told(2), 2);
        good("r6 = 1\nr0 = 0\nexit\nif r6 > 1 goto -3\nexit");
        House.due("kept", house.house.told(2), 2);
        good("r6 = 1\nr0 = 0\nexit");
        House.due("kept", house.house.told(2), 1);
    }

    /**
     * Two ways come to M: the first one with what the first choice makes, the second with the second one's; so the
     * second ends there when the state kept first covers it. r1, r8 and r10 are there; r9 is any number.
     */
    private static void covers(String ahead, String first, String second, boolean so) {
        String text = "r8 = r1\ncall 5\nr9 = r0\nr1 = r8\n" + ahead + "if r9 == 77 goto S\n" + first + "r9 = 0\nr1 = 0\ngoto M\nS: " + second + "r9 = 0\nr1 = 0\nM: r0 = 0\nr0 = 1\nexit\n";
        fault(text, 0, -1);
        // the first one, that at S, and one or two at M
        House.due("covered at M: <" + text + ">", house.house.told(2), so ? 3 : 4);
    }

    private static String choice(String some) {
        return some.isEmpty() ? "" : some + "\n";
    }

    private static void numbers(String first, String second, boolean so) {
        covers("r6 = *(u32 *)(r1 + 8)\n", choice(first), choice(second), so);
    }

    /** "a NUMBER one whose U, S lie in its own, whose bits are known where its own are, and so". */
    private static void coveringNumbers() {
        numbers("", "", true);
        numbers("", "r6 = 5", true);
        numbers("r6 = 5", "", false);
        numbers("r6 = 5", "r6 = 5", true);
        numbers("r6 = 5", "r6 = 6", false);
        numbers("r6 = 5", "w6 = 5", true);
        numbers("", "r6 = 4294967295 ll", true);
        numbers("", "r6 = 4294967296 ll", false);
        numbers("", "r6 = -1", false);
        numbers("r6 &= 7", "r6 &= 3", true);
        numbers("r6 &= 3", "r6 &= 7", false);
        numbers("r6 &= 7", "r6 = 7", true);
        numbers("r6 &= 7", "r6 = 8", false);
        numbers("r6 &= 6", "r6 &= 4", true);
        numbers("r6 &= 6", "r6 = 5", false);
        numbers("r6 &= 6", "r6 &= 7", false);
        numbers("r6 &= 6\nr6 |= 1", "r6 = 3", true);
        numbers("r6 &= 6\nr6 |= 1", "r6 = 4", false);
        numbers("r6 &= 6\nr6 |= 1", "r6 &= 6", false);
        // ranges alone: 0 .. 9 and 0 .. 10; 3 .. 9 and 2 .. 9
        numbers("r6 %= 10", "r6 %= 10", true);
        numbers("r6 %= 10", "r6 %= 11", false);
        numbers("r6 %= 11", "r6 %= 10", true);
        numbers("r6 %= 10", "r6 = 9", true);
        numbers("r6 %= 10", "r6 = 10", false);
        numbers("r6 %= 7\nr6 += 3", "r6 %= 8\nr6 += 2", false);
        numbers("r6 %= 8\nr6 += 2", "r6 %= 7\nr6 += 3", true);
        // S alone: -128 .. 127 and -129 .. 126
        numbers("r6 = (s8) r6", "r6 = (s8) r6", true);
        numbers("r6 = (s8) r6", "r6 = (s16) r6", false);
        numbers("r6 = (s16) r6", "r6 = (s8) r6", true);
        numbers("r6 = (s8) r6", "r6 = 127", true);
        numbers("r6 = (s8) r6", "r6 = 128", false);
        numbers("r6 = (s8) r6", "r6 = -128", true);
        numbers("r6 = (s8) r6", "r6 = -129", false);
        numbers("r6 = (s8) r6", "r6 = (s8) r6\nr6 += -1", false);
        // UNSET any, and no other UNSET
        covers("", "", "r6 = 5\n", true);
        covers("", "", "r6 = r10\n", true);
        covers("", "r6 = 5\n", "", false);
        covers("", "r6 = r10\n", "r6 = 5\n", false);
        covers("", "r6 = 5\n", "r6 = r10\n", false);
    }

    /** "others of the same kind, frame, map, size, OFF, whose PART likewise, whose REACH is not less". */
    private static void coveringKinds() {
        covers("", "r6 = r8\n", "r6 = r8\n", true);
        covers("", "r6 = r8\n", "r6 = r10\n", false);
        covers("", "r6 = r10\n", "r6 = r10\n", true);
        covers("", "r6 = r10\nr6 += -8\n", "r6 = r10\nr6 += -8\n", true);
        covers("", "r6 = r10\nr6 += -8\n", "r6 = r10\nr6 += -9\n", false);
        covers("", "r6 = map 0\n", "r6 = map 0\n", true);
        covers("", "r6 = map 0\n", "r6 = map 4\n", false);
        covers("", "r6 = *(u32 *)(r8 + 0)\n", "r6 = *(u32 *)(r8 + 4)\n", false);
        covers("", "r6 = *(u32 *)(r8 + 4)\n", "r6 = *(u32 *)(r8 + 4)\n", true);
        // REACH
        String packet = "r6 = *(u32 *)(r8 + 0)\nr3 = *(u32 *)(r8 + 4)\nr4 = r6\nr4 += %d\nif r4 <= r3 goto +2\nr0 = 0\nexit\nr3 = 0\nr4 = 0\n";
        for (int[] reach : new int[][] {{14, 14, 1}, {14, 13, 0}, {13, 14, 1}, {0, 1, 1}, {1, 0, 0}}) {
            covers2(String.format(packet, reach[0]), String.format(packet, reach[1]), reach[2] == 1);
        }
        // PART, with TAGs that answer to one another
        String part = "r6 = *(u32 *)(r8 + 0)\nr4 = *(u32 *)(r8 + 8)\nr4 &= %d\nr6 += r4\nr4 = 0\n";
        for (int[] masks : new int[][] {{7, 7, 1}, {7, 3, 1}, {3, 7, 0}, {6, 7, 0}, {7, 6, 1}}) {
            covers("", String.format(part, masks[0]), String.format(part, masks[1]), masks[2] == 1);
        }
        covers("", String.format(part, 7) + "r6 += 1\n", String.format(part, 7), false);
        covers("", String.format(part, 7) + "r6 += 1\n", String.format(part, 7) + "r6 += 1\n", true);
        // map and size
        String look = KEY + "r1 = map %d\ncall 1\nr6 = r0\nr0 = 0\n*(u64 *)(r10 - 8) = 0\n*(u64 *)(r10 - 16) = 0\n";
        covers("", String.format(look, 0), String.format(look, 0), true);
        covers("", String.format(look, 0), String.format(look, 4), false);
    }

    /** As covers(), but with another EXIT in the choices: counted are the states kept at M. */
    private static void covers2(String first, String second, boolean so) {
        String text = "r8 = r1\ncall 5\nr9 = r0\nif r9 == 77 goto S\n" + first + "r9 = 0\nr1 = 0\ngoto M\nS: " + second + "r9 = 0\nr1 = 0\nM: r0 = 0\nr0 = 1\nexit\n";
        fault(text, 0, -1);
        // the first, that at S, those at the two JOINs of the tests, and one or two at M
        House.due("covered at M: <" + text + ">", house.house.told(2), so ? 1 + 1 + 2 + 1 : 1 + 1 + 2 + 2);
    }

    /** "whose TAGs answer to one another one to one (held records in their order first; TAG 0 to 0)". */
    private static void coveringTags() {
        String two = KEY + "r1 = map 0\ncall 1\nr6 = r0\nr2 = r10\nr2 += -16\nr1 = map 0\ncall 1\nr7 = r0\nr0 = 0\n";
        String one = KEY + "r1 = map 0\ncall 1\nr6 = r0\nr2 = r10\nr2 += -16\nr1 = map 0\ncall 1\nr7 = r6\nr0 = 0\n";
        covers("", two, two, true);
        covers("", one, one, true);
        covers("", two, one, false);
        covers("", one, two, false);
        // three of them: the answers to the first two do not hide the third
        String three = two.replace("r0 = 0\n", "*(u64 *)(r10 - 24) = %s\n") + "r0 = 0\n";
        covers("", String.format(three, "r6"), String.format(three, "r6"), true);
        covers("", String.format(three, "r6"), String.format(three, "r7"), false);
        covers("", String.format(three, "r7"), String.format(three, "r6"), false);
        covers("", String.format(three, "r7"), String.format(three, "r7"), true);
        manyTags();
        // those of before the two ways, turned: they answer to one another all the same
        String ahead = KEY + "r1 = map 0\ncall 1\nr6 = r0\nr2 = r10\nr2 += -16\nr1 = map 0\ncall 1\nr7 = r0\nr0 = 0\n";
        covers(ahead + "r1 = r8\n", "", "r5 = r6\nr6 = r7\nr7 = r5\n", true);
        covers(ahead + "r1 = r8\n", "r5 = r6\n", "r5 = r6\nr6 = r7\nr7 = r5\n", false);
        covers(ahead + "r1 = r8\n", "r5 = r7\n", "r5 = r6\nr6 = r7\nr7 = r5\n", true);
        covers(ahead + "r1 = r8\n", "r5 = r6\n", "r5 = r7\n", false);
        // MAPs, ENDs have none, and no CELL has one beside what is CELL OR 0
        String others = KEY + "r1 = map 0\ncall 1\nr6 = r0\nr0 = 0\nr7 = map 0\nr5 = *(u32 *)(r8 + 4)\n";
        covers("", others, others, true);
        covers4(two + "if r7 != 0 goto +2\nr0 = 0\nexit\n", two + "if r7 != 0 goto +2\nr0 = 0\nexit\n", true);
        covers4(two + "if r6 != 0 goto +2\nr0 = 0\nexit\n", two + "if r6 != 0 goto +2\nr0 = 0\nexit\n", true);
        // CELLs have none: of one look-up, of two
        String cells = "if r6 != 0 goto +2\nr0 = 0\nexit\nif r7 != 0 goto +2\nr0 = 0\nexit\n";
        covers4(two + cells, one + "if r6 != 0 goto +2\nr0 = 0\nexit\n", true);
        covers4(one + "if r6 != 0 goto +2\nr0 = 0\nexit\n", two + cells, true);
        // PACKETs: TAG 0 answers to 0 alone
        String load = "r6 = *(u32 *)(r8 + 0)\nr7 = r6\nr5 = *(u32 *)(r8 + 8)\nr5 &= 7\n";
        String part = load + "r6 += r5\nr7 += r5\nr5 = 0\n";
        String same = load + "r6 += r5\nr7 = r6\nr5 = 0\n";
        covers("", part, part, true);
        covers("", same, same, true);
        covers("", part, same, false);
        covers("", same, part, false);
        // a PART of 0 that has a TAG, and one of TAG 0: r5 is 0 .. 7 of the one, and of the other nothing was added
        covers("", load + "r6 += r5\nr5 = 0\n", load + "r5 = 0\n", false);
        covers("", load + "r5 = 0\n", load + "r6 += r5\nr5 = 0\n", false);
        covers("", load + "r7 = 0\nr6 += r5\nr5 = 0\n", load + "r7 = 0\nr5 = 0\n", false);
        // held records in their order first: r6 and r7 are the first and the second one, or turned
        String records = "r1 = map 6\nr2 = 8\nr3 = 0\ncall 131\n*(u64 *)(r10 - 8) = r0\nr1 = map 6\nr2 = 8\nr3 = 0\ncall 131\n*(u64 *)(r10 - 16) = r0\nr0 = 0\n%s";
        String straight = "r6 = *(u64 *)(r10 - 8)\nr7 = *(u64 *)(r10 - 16)\n*(u64 *)(r10 - 8) = 0\n*(u64 *)(r10 - 16) = 0\n";
        String turned = "r7 = *(u64 *)(r10 - 8)\nr6 = *(u64 *)(r10 - 16)\n*(u64 *)(r10 - 8) = 0\n*(u64 *)(r10 - 16) = 0\n";
        covers3(String.format(records, straight), String.format(records, straight), true);
        covers3(String.format(records, straight), String.format(records, turned), false);
        covers3(String.format(records, turned), String.format(records, straight), false);
        covers3(String.format(records, turned), String.format(records, turned), true);
    }

    /** Five look-ups; of each two of them the later one's place has the earlier one's TAG, or its own. */
    private static void manyTags() {
        StringBuilder all = new StringBuilder("*(u64 *)(r10 - 8) = 1\n");
        for (int i = 0; i < 5; i++) {
            all.append("r2 = r10\nr2 += -8\nr1 = map 0\ncall 1\n*(u64 *)(r10 - ").append(16 + 8 * i).append(") = r0\n");
        }
        all.append("r0 = 0\n");
        covers("", all.toString(), all.toString(), true);
        for (int i = 0; i < 5; i++) {
            for (int k = 0; k < i; k++) {
                String same = all + "r0 = *(u64 *)(r10 - " + (16 + 8 * k) + ")\n*(u64 *)(r10 - " + (16 + 8 * i) + ") = r0\nr0 = 0\n";
                covers("", same, same, true);
                covers("", all.toString(), same, false);
                covers("", same, all.toString(), false);
            }
        }
    }

    private static final String END = "M: r9 = 0\nif r6 == 0 goto N\nr1 = r6\nr2 = 0\ncall 133\nN: if r7 == 0 goto O\nr1 = r7\nr2 = 0\ncall 133\nO: r0 = 0\nexit\n";

    /** The records are given back behind M: the second way goes along M again, or does not. */
    private static void covers3(String first, String second, boolean so) {
        String text = "r8 = r1\ncall 5\nr9 = r0\nif r9 == 77 goto S\n" + first + "r9 = 0\nr2 = 0\nr3 = 0\ngoto M\nS: " + second + "r9 = 0\nr2 = 0\nr3 = 0\n" + END;
        fault(text, 0, -1);
        int n = house.house.told(1);
        // covered, the second way has just what is ahead of M
        House alone = withMaps();
        House.due("judge of one way", alone.judge(0, text.replace("if r9 == 77 goto S", "r9 = 5")), 0);
        House.due("covered at M: <" + text + ">", n == alone.house.told(1) + words(second) - 2 + 3, so);
    }

    private static void covers4(String first, String second, boolean so) {
        String text = "r8 = r1\ncall 5\nr9 = r0\nif r9 == 77 goto S\n" + first + "r9 = 0\nr1 = 0\ngoto M\nS: " + second + "r9 = 0\nr1 = 0\nM: r0 = 0\nr0 = 1\nexit\n";
        fault(text, 0, -1);
        int tests = text.split("!= 0 goto").length - 1;
        House.due("covered at M: <" + text + ">", house.house.told(2), 1 + 1 + tests + (so ? 1 : 2));
    }

    /** "as many frames, with the same words to go on at behind their FUNCTIONS; as many records held; .. from the first frame on". */
    private static void coveringFrames() {
        // the same function called from two words: not covered
        good("r6 = 0\ncall f\ncall f\nexit\nf: goto +0\nr0 = 0\nexit");
        House.due("kept", house.house.told(2), 3);
        // from the same word, on two ways: covered
        good("call 5\nr6 = r0\nr0 = 0\nif r6 == 77 goto +0\nr6 = 0\ncall f\nexit\nf: goto +0\nr0 = 0\nexit");
        House.due("gone", house.house.told(1), 4 + 2 + 4);
        // what differs in the caller's registers or stack alone
        for (String[] pair : new String[][] {{"r7 = 5", "r7 = 6", "0"}, {"r7 = 5", "r7 = 5", "1"}, {"r7 = r6", "r7 = 6", "1"}, {"r7 = 5", "r7 = r6", "0"},
            {"*(u64 *)(r10 - 8) = 5", "*(u64 *)(r10 - 8) = 6", "0"}, {"*(u64 *)(r10 - 8) = r6", "*(u64 *)(r10 - 8) = 6", "1"},
            {"*(u64 *)(r10 - 128) = 5", "*(u64 *)(r10 - 128) = 6", "0"}}) {
            frameChoice(pair[0], pair[1], pair[2].equals("1"), 1);
            frameChoice(pair[0], pair[1], pair[2].equals("1"), 3);
        }
        // what differs in the function's own frame alone
        for (String[] pair : new String[][] {{"r7 = 5", "r7 = 6", "0"}, {"r7 = 5", "r7 = 5", "1"}, {"*(u64 *)(r10 - 8) = 5", "*(u64 *)(r10 - 8) = 6", "0"}}) {
            String text = "call 5\nr1 = r0\ncall f\nexit\nf: r6 = r1\nr0 = 0\nif r6 == 77 goto S\n" + pair[0] + "\nr6 = 0\nr1 = 0\ngoto M\nS: " + pair[1]
                    + "\nr6 = 0\nr1 = 0\nM: r0 = 0\nexit\n";
            good(text);
            House.due("kept in <" + text + ">", house.house.told(2), pair[2].equals("1") ? 3 : 4);
        }
        // as many records held: none and one
        String held = "call 5\nr6 = r0\nif r6 == 77 goto S\nr6 = 0\nr1 = map 6\nr2 = 8\nr3 = 0\ncall 131\n*(u64 *)(r10 - 8) = r0\ngoto M\nS: r6 = 0\n*(u64 *)(r10 - 8) = 0\nM: r0 = 0\n"
                + "r1 = *(u64 *)(r10 - 8)\nif r1 == 0 goto E\nr2 = 0\ncall 133\nE: r0 = 0\nexit\n";
        good(held);
    }

    private static void frameChoice(String first, String second, boolean so, int depth) {
        StringBuilder functions = new StringBuilder();
        for (int i = 1; i < depth; i++) {
            functions.append("f").append(i).append(": call f").append(i + 1).append("\nexit\n");
        }
        functions.append("f").append(depth).append(": goto +0\nr0 = 0\nexit\n");
        String text = "call 5\nr6 = r0\nr9 = r0\nif r9 == 77 goto S\n" + first + "\nr9 = 0\nr6 = 0\ngoto C\nS: " + second + "\nr9 = 0\nr6 = 0\nC: r0 = 0\ncall f1\nexit\n" + functions;
        // C is no JOIN that ends it: a word ahead of the call is different in r8
        String apart = text.replace("goto C\nS: ", "r8 = 1\ngoto C\nS: ").replace("C: r0 = 0\n", "r8 = 2\nC: r8 = 0\n");
        good(apart);
        House.due("kept in <" + apart + ">", house.house.told(2), 1 + 1 + 2 + (so ? 1 : 2));
    }

    /** "A part: with a VALUE one with such; with bytes one in which these are set (a VALUE must be a NUMBER if any is)." */
    private static void coveringParts() {
        String whole = "*(u64 *)(r10 - 16) = %s\n";
        covers("", String.format(whole, "5"), String.format(whole, "5"), true);
        covers("", String.format(whole, "5"), String.format(whole, "6"), false);
        covers("", String.format(whole, "r10"), String.format(whole, "r10"), true);
        covers("", String.format(whole, "r10"), String.format(whole, "r8"), false);
        covers("", String.format(whole, "5"), "", false);
        covers("", String.format(whole, "5"), "*(u32 *)(r10 - 16) = 5\n*(u32 *)(r10 - 12) = 0\n", false);
        covers("", "*(u32 *)(r10 - 16) = 5\n*(u32 *)(r10 - 12) = 0\n", String.format(whole, "5"), true);
        covers("", "*(u8 *)(r10 - 16) = 5\n", String.format(whole, "r10"), false);
        covers("", "", String.format(whole, "r10"), true);
        covers("", "", "*(u8 *)(r10 - 16) = 5\n", true);
        covers("", "*(u8 *)(r10 - 16) = 5\n", "", false);
        for (int b = 0; b < 8; b++) {
            covers("", "*(u8 *)(r10 - " + (16 - b) + ") = 5\n", "*(u32 *)(r10 - 16) = 5\n", b < 4);
            covers("", "*(u8 *)(r10 - " + (16 - b) + ") = 5\n", "*(u32 *)(r10 - 12) = 5\n", b >= 4);
            covers("", "*(u32 *)(r10 - 16) = 5\n", "*(u8 *)(r10 - " + (16 - b) + ") = 5\n", false);
        }
        // a part that had no NUMBER, and lost it: no byte is set
        covers("", "*(u64 *)(r10 - 16) = r1\nr2 = *(u32 *)(r8 + 0)\n*(u64 *)(r10 - 16) = r2\nr2 = 0\nr1 = r8\ncall 44\nr1 = r8\n", "r1 = r8\nr2 = 0\ncall 44\n", true);
        // parts at both ends
        covers("", "*(u64 *)(r10 - 128) = 5\n", "*(u64 *)(r10 - 128) = 6\n", false);
        covers("", "*(u64 *)(r10 - 8) = 5\n", "*(u64 *)(r10 - 8) = 6\n", false);
    }

    /** "LONGEST of one that is done: how many instructions at most lie on a way from it to an end ..". */
    private static void longest() {
        good("r0 = 0\nexit");
        House.due("LONGEST", house.house.told(3), 2);
        // the second way ends at a DONE state, whose LONGEST is put behind it: 5 ahead of M, 3 from there
        good("call 5\nr6 = r0\nif r6 == 77 goto S\nr6 = 0\ngoto M\nS: r6 = 0\nr6 = 0\nr6 = 0\nM: r0 = 0\nr0 = 1\nexit");
        House.due("gone", house.house.told(1), 3 + 2 + 3 + 3);
        House.due("LONGEST", house.house.told(3), 3 + 3 + 3);
        // the covering one's own way was longer by a way that waited behind it
        good("call 5\nr6 = r0\nr7 = r0\nif r6 == 77 goto S\nr6 = 0\ngoto M\nS: r6 = 0\nM: r0 = 0\nif r7 == 5 goto L\nexit\nL: r0 = 1\nr0 = 2\nr0 = 3\nexit");
        House.due("LONGEST", house.house.told(3), 4 + 2 + 2 + 4);
        // a way that ends since none is gone has as many as were gone on it
        good("r6 = *(u32 *)(r1 + 8)\nr0 = 0\nr6 &= 4\nr6 |= 1\nif r6 > 4 goto E\nif r6 < 3 goto E\nr7 = 1\nr7 = 2\nr7 = 3\nif r6 > 3 goto E\nE: exit");
        House.due("LONGEST", house.house.told(3), 10);
        // loops that end
        good("r6 = 0\nL: r6 += 1\nif r6 < 9 goto L\nr0 = 0\nexit");
        House.due("LONGEST", house.house.told(3), 1 + 18 + 2);
        // with a fault, of whatever was DONE: 0
        fault("call 5\nr6 = r0\nif r6 == 77 goto S\nr0 = 0\nexit\nS: r0 = r9\nexit", UNSET, 5);
        House.due("LONGEST", house.house.told(3), 0);
        House.due("a map that was not told", new House().judge(0, "r1 = map 0\n" + OVER), MAP);
    }
}
