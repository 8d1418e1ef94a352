import java.util.ArrayList;
import java.util.List;

/** Whatever is called in whatever order, nothing is thrown, and way 1 does what way 0 does. */
public final class NeverThrowsTest {
    private static final String[] LINES = {
        "r0 = 5", "exit", "r1 = *(u32 *)(r1 + 0)", "r2 = *(u32 *)(r1 + 4)", "r0 = -1", "w3 = 7", "r3 s/= -2", "w4 s%= w3",
        "r6 = r1", "r1 = r6", "*(u64 *)(r10 - 8) = 3", "*(u64 *)(r10 - 16) = r0", "r2 = r10", "r2 += -8", "r1 = map 0",
        "r1 = map 1", "r2 = map 2", "r1 = map 3", "call 1", "call 2", "call 3", "call 5", "call 6", "call 7", "call 12",
        "call 26", "call 44", "call 131", "call 132", "call 133", "if r0 == 0 goto +1", "if r0 != 0 goto +2",
        "if r1 > r2 goto +1", "if w3 s< 5 goto +1", "goto +0", "gotol +1", "call +1", "r2 = 8", "r3 = 0", "r4 = 0",
        "r0 = *(u64 *)(r0 + 0)", "*(u8 *)(r0 + 1) = 1", "lock *(u64 *)(r10 - 8) += r3", "fetch *(u32 *)(r10 - 8) ^= r3",
        "cmpxchg *(u64 *)(r10 - 8) r3", "xchg *(u32 *)(r0 + 0) r3", "r7 = 81985529216486895 ll", "r3 = be16 r3", "L: r8 = 1",
        "goto L", "if r8 < 9 goto L", "r8 += 1", "M:", "call M", "r0 = (s8) r3", "w0 = - w0", "r3 <<= 65", "r11 = 2", "foo",
        "word 0x1800000018", "r3 = 99999999999", "r3 = 99999999999 ll", "*(u32 *)(r1 + 12) = 9", "r3 = bswap64 r3", "$", "r9 ^= r9",
    };

    public static void main(String[] args) {
        for (int seed = 1; seed <= 400; seed++) {
            session(seed);
        }
        House.end();
    }

    /** The same calls on two objects, but for the way of the runs. */
    private static void session(int seed) {
        House[] pair = {new House(), new House()};
        for (int call = 0; call < 160; call++) {
            long[] answers = new long[2];
            for (int way = 0; way < 2; way++) {
                Dice dice = new Dice(seed * 1000L + call);
                try {
                    answers[way] = anyCall(pair[way], dice, way);
                } catch (RuntimeException e) {
                    e.printStackTrace(System.out);
                    House.due("seed " + seed + " call " + call + " threw", 1, 0);
                    return;
                }
            }
            House.due("seed " + seed + " call " + call + " by way 1", answers[1], answers[0]);
        }
    }

    private static int small(Dice dice) {
        return dice.odds(9, 10) ? dice.below(10) - 1 : dice.of(Integer.MIN_VALUE, Integer.MAX_VALUE, 255, 4096, -7, 200);
    }

    private static long anyCall(House house, Dice dice, int way) {
        FilterHouse x = house.house;
        switch (dice.below(30)) {
            case 0:
            case 1:
            case 2:
            case 3:
            case 4:
                house.tapeText(text(dice));
                return x.assemble(dice.below(8));
            case 5:
            case 6:
                house.tapeWords(words(dice));
                return x.load(small(dice));
            case 7:
                return x.map(dice.below(4), dice.below(4), dice.of(0, 4, 6), dice.of(0, 8, 64), dice.below(17)) ? 1 : 0;
            case 8:
                return x.map(small(dice), small(dice), small(dice), small(dice), small(dice)) ? 1 : 0;
            case 9:
                house.tape(new byte[dice.of(4, 6, 12, 14, 68, 300, 0)]);
                return x.put(small(dice), small(dice));
            case 10:
                house.tape(new byte[dice.of(4, 6, 0)]);
                return x.get(small(dice)) * 1000L + x.outs();
            case 11:
                house.tape(new byte[dice.of(4, 6, 0)]);
                return x.remove(small(dice));
            case 12:
                return x.entry(small(dice), small(dice)) + x.out(small(dice));
            case 13:
                return x.link(small(dice), small(dice), small(dice)) ? 1 : 0;
            case 14:
                return x.next(small(dice)) * 1000L + x.out(0);
            case 15:
                house.tape(new byte[dice.below(300)]);
                return x.packet();
            case 16:
                x.given(dice.below(1000), small(dice));
                return x.mark();
            case 17:
                x.chances(dice.bits());
                return x.packetByte(small(dice)) + x.trace(small(dice)) + x.traces() + x.tear();
            case 18:
                return x.print(small(dice)) * 10000L + x.out(dice.below(100));
            case 19:
                return x.known(small(dice), small(dice), small(dice)) + x.told(small(dice)) + x.word(small(dice), small(dice));
            case 20:
            case 21:
            case 22:
                return x.judge(small(dice)) * 100L + x.told(dice.below(6));
            default:
                return runAll(x, way);
        }
    }

    private static long runAll(FilterHouse x, int way) {
        long all = 0;
        for (int slot = 0; slot < 8; slot++) {
            x.judge(slot);
            all = all * 31 + x.run(slot, way);
            all = all * 31 + x.result() + x.tails() + x.length() + x.mark() + x.traces() + x.size(1) + x.size(3);
        }
        return all * 31 + x.steps();
    }

    private static String text(Dice dice) {
        StringBuilder text = new StringBuilder();
        int n = dice.of(1, 3, 8, 20, 250);
        boolean right = dice.odds(2, 3);
        for (int i = 0; i < n; i++) {
            String line = LINES[dice.below(LINES.length - (right ? 16 : 0))];
            if (!right && dice.odds(1, 10)) {
                int cut = dice.below(line.length());
                line = line.substring(0, cut) + (char) dice.below(256) + line.substring(cut + 1);
            }
            text.append(line).append('\n');
        }
        text.append(right ? "r0 = 1\nexit" : "");
        return text.length() > 4000 ? text.substring(0, 4000) : text.toString();
    }

    private static long[] words(Dice dice) {
        List<Long> words = new ArrayList<>();
        int n = dice.of(1, 4, 20, 200);
        for (int i = 0; i < n; i++) {
            int op = dice.odds(1, 3) ? dice.below(256) : dice.of(0xb7, 0x07, 0xbf, 0x0f, 0x61, 0x7b, 0x15, 0x85, 0x05, 0x18, 0x2d);
            int imm = dice.of(0, 0, 1, 2, 7, 44, 131, -8, dice.below(256) - 128);
            words.add(op | (long) dice.below(11) << 8 | (long) dice.of(0, 0, 1, dice.below(11)) << 12
                    | (long) (dice.of(0, 0, 1, -8, dice.below(40) - 20) & 0xFFFF) << 16 | (long) imm << 32);
        }
        if (dice.odds(1, 2)) {
            words.set(words.size() - 1, 0x95L);
        }
        long[] all = new long[words.size()];
        for (int i = 0; i < all.length; i++) {
            all[i] = words.get(i);
        }
        return all;
    }
}
