import java.util.ArrayList;
import java.util.List;

/**
 * Part 1, WORDS: which words are instructions, told here by a table of what each OP may have beside it; and what is
 * PRINTED of an instruction is read as the same word.
 */
public final class FormTest {
    /** OFF: none (0), any, or just these. IMM likewise. S: none, 0 .. 9, 0 .. 10. D: none, 0 .. 9, 0 .. 10. */
    private record Rule(int op, int d, int s, int[] offs, long imm1, long imm2, int[] imms) {
        boolean allows(int dd, int ss, int off, int imm) {
            return dd <= d && ss <= s && (offs == null || isIn(off, offs)) && (imms == null ? imm >= imm1 && imm <= imm2 : isIn(imm, imms));
        }
    }

    private static final long LEAST = Integer.MIN_VALUE;
    private static final long MOST = Integer.MAX_VALUE;
    private static final int[] NO_OFF = {0};
    private static final List<List<Rule>> RULES = new ArrayList<>();

    private static final int[] DS = {0, 1, 9, 10, 11, 15};
    private static final int[] SS = {0, 1, 2, 9, 10, 11, 15};
    private static final int[] OFFS = {0, 1, 2, 7, 8, 9, 16, 24, 32, 33, 64, -1, 32767, -32768};
    private static final int[] IMMS = {0, 1, 2, 7, 8, 15, 16, 17, 31, 32, 33, 63, 64, 65, 128, -1, -2, Integer.MAX_VALUE, Integer.MIN_VALUE, 0x40, 0x41, 0x50, 0x51,
        0xA0, 0xA1, 0xE0, 0xE1, 0xF0, 0xF1, 0x10, 0x11, 0xB1, 0xF2, 0x100, 0x1F1};

    public static void main(String[] args) {
        for (int op = 0; op < 256; op++) {
            RULES.add(new ArrayList<>());
        }
        alu();
        jumps();
        memory();
        singles();
        pairs();
        House.end();
    }

    private static boolean isIn(int x, int... some) {
        for (int s : some) {
            if (s == x) {
                return true;
            }
        }
        return false;
    }

    /** S 0 is "none" of an instruction that names none. */
    private static void rule(int op, int d, int s, int[] offs, long imm1, long imm2) {
        RULES.get(op).add(new Rule(op, d, s, offs, imm1, imm2, null));
    }

    private static void ruleOf(int op, int d, int s, int[] offs, int... imms) {
        RULES.get(op).add(new Rule(op, d, s, offs, 0, 0, imms));
    }

    private static void alu() {
        int[] plain = {0x00, 0x10, 0x20, 0x40, 0x50, 0xA0, 0xB0};
        for (int wide = 0; wide <= 1; wide++) {
            int low = wide == 1 ? 7 : 4;
            for (int code : plain) {
                rule(code + low, 9, 0, NO_OFF, LEAST, MOST);
                rule(code + 8 + low, 9, 10, NO_OFF, 0, 0);
            }
            for (int code : new int[] {0x30, 0x90}) {
                // / and % by an IMM: not 0; OFF 1: with signs
                rule(code + low, 9, 0, new int[] {0, 1}, LEAST, -1);
                rule(code + low, 9, 0, new int[] {0, 1}, 1, MOST);
                rule(code + 8 + low, 9, 10, new int[] {0, 1}, 0, 0);
            }
            for (int code : new int[] {0x60, 0x70, 0xC0}) {
                // shifts by an IMM: 0 .. 63 (W: 31)
                rule(code + low, 9, 0, NO_OFF, 0, wide == 1 ? 63 : 31);
                rule(code + 8 + low, 9, 10, NO_OFF, 0, 0);
            }
            rule(0x80 + low, 9, 0, NO_OFF, 0, 0);
            rule(0xB8 + low, 9, 10, wide == 1 ? new int[] {8, 16, 32} : new int[] {8, 16}, 0, 0);
        }
        for (int op : new int[] {0xD4, 0xDC, 0xD7}) {
            ruleOf(op, 9, 0, NO_OFF, 16, 32, 64);
        }
    }

    private static void jumps() {
        for (int code : new int[] {0x10, 0x20, 0x30, 0x40, 0x50, 0x60, 0x70, 0xA0, 0xB0, 0xC0, 0xD0}) {
            for (int low = 5; low <= 6; low++) {
                rule(code + low, 10, 0, null, LEAST, MOST);
                rule(code + 8 + low, 10, 10, null, 0, 0);
            }
        }
        rule(0x05, 0, 0, null, 0, 0);
        rule(0x06, 0, 0, NO_OFF, LEAST, MOST);
        rule(0x85, 0, 0, NO_OFF, 0, MOST);
        rule(0x95, 0, 0, NO_OFF, 0, 0);
    }

    private static void memory() {
        for (int size : new int[] {0x00, 0x08, 0x10, 0x18}) {
            rule(0x61 + size, 9, 10, null, 0, 0);
            if (size != 0x18) {
                rule(0x81 + size, 9, 10, null, 0, 0);
            }
            rule(0x62 + size, 10, 0, null, LEAST, MOST);
            rule(0x63 + size, 10, 10, null, 0, 0);
        }
        for (int op : new int[] {0xC3, 0xDB}) {
            ruleOf(op, 10, 10, null, 0x00, 0x40, 0x50, 0xA0, 0xF1);
            ruleOf(op, 10, 9, null, 0x01, 0x41, 0x51, 0xA1, 0xE1);
        }
    }

    private static boolean isDue(int op, int d, int s, int off, int imm) {
        // a FUNCTION: S 1, any IMM
        if (op == 0x85 && s == 1) {
            return d == 0 && off == 0;
        }
        for (Rule rule : RULES.get(op)) {
            if (rule.allows(d, s, off, imm)) {
                return true;
            }
        }
        return false;
    }

    private static long word(int op, int d, int s, int off, int imm) {
        return op | (long) d << 8 | (long) s << 12 | (off & 0xFFFFL) << 16 | (long) imm << 32;
    }

    /** All OPs but that of pairs, with what is near to what they may have; 200 words at a time. */
    private static void singles() {
        List<Long> words = new ArrayList<>();
        List<Boolean> due = new ArrayList<>();
        for (int op = 0; op < 256; op++) {
            if (op == 0x18) {
                continue;
            }
            for (int d : DS) {
                for (int s : SS) {
                    for (int off : OFFS) {
                        for (int imm : IMMS) {
                            // not all that is far from every rule
                            if (RULES.get(op).isEmpty() && (d > 1 || s > 1 || off > 1)) {
                                continue;
                            }
                            words.add(word(op, d, s, off, imm));
                            due.add(isDue(op, d, s, off, imm));
                        }
                    }
                }
            }
        }
        House house = new House();
        long[] some = new long[100];
        for (int from = 0; from < words.size(); from += 100) {
            house = from % 200 == 0 ? new House() : house;
            int n = Math.min(100, words.size() - from);
            long[] these = n == 100 ? some : new long[n];
            for (int i = 0; i < n; i++) {
                these[i] = words.get(from + i);
            }
            House.due("load", house.tapeWords(these).house.load(0), n);
            String[] lines = house.printed(0).split("\n");
            House.due("lines of " + n + " words", lines.length, n);
            StringBuilder back = new StringBuilder();
            List<Long> again = new ArrayList<>();
            for (int i = 0; i < n; i++) {
                boolean good = !lines[i].startsWith("word 0x");
                House.due("instruction " + Long.toHexString(these[i]) + " printed as " + lines[i], good, due.get(from + i));
                if (good) {
                    back.append(lines[i]).append('\n');
                    again.add(these[i]);
                } else {
                    House.due("a word", lines[i], String.format("word 0x%016x", these[i]));
                }
            }
            readBack(back.toString(), again);
        }
    }

    private static void readBack(String text, List<Long> words) {
        if (words.isEmpty()) {
            return;
        }
        House house = new House();
        House.due("assemble of what was printed", house.assemble(7, text), words.size());
        for (int i = 0; i < words.size(); i++) {
            House.due("word of " + text.split("\n")[i], house.house.word(7, i), words.get(i));
        }
    }

    private static void pairs() {
        for (int d : DS) {
            for (int s : SS) {
                for (int off : OFFS) {
                    for (int imm : IMMS) {
                        pair(word(0x18, d, s, off, imm), 0, d <= 9 && off == 0 && (s == 0 || s == 1 && imm >= 0 && imm <= 7));
                    }
                }
            }
        }
        for (int s = 0; s <= 2; s++) {
            long first = word(0x18, 9, s, 0, 7);
            // of the second word of a number just IMM may be anything, of that of a map nothing
            for (int imm : IMMS) {
                pair(first, word(0, 0, 0, 0, imm), s == 0 || s == 1 && imm == 0);
            }
            for (int k = 0; k < 64; k++) {
                pair(first, 1L << k, s == 0 && k >= 32);
            }
        }
    }

    private static House shared = new House();
    private static int sharedCalls = 0;

    private static void pair(long first, long second, boolean due) {
        if (++sharedCalls % 60 == 0) {
            shared = new House();
        }
        House.due("load", shared.tapeWords(first, second, 0x95).house.load(0), 3);
        String text = shared.printed(0);
        House.due("pair " + Long.toHexString(first) + " " + Long.toHexString(second), text.split("\n").length, due ? 2 : 3);
        if (due) {
            House.due("assemble of " + text, shared.assemble(1, text), 3);
            House.due("first of " + text, shared.house.word(1, 0), first);
            House.due("second of " + text, shared.house.word(1, 1), second);
        }
        int fault = shared.house.judge(0);
        House.due("FORM of " + text, fault == 1, !due);
        House.due("its word", due || shared.house.told(0) == 0, true);
    }
}
