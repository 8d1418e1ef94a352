import java.math.BigInteger;

/**
 * Part 5 in programs made by dice: what the judge knows of all registers ahead of each instruction, on both ways of
 * each jump, is what Known (another writing of part 5) says. The numbers of jumps and operations are near the ends
 * of what is known, so that ranges run over, and ways with NOTHING come.
 */
public final class KnownTest {
    private static final String[] SIGNS = {"+", "-", "*", "/", "%", "&", "|", "^", "<<", ">>", "s>>", "s/", "s%", "="};
    private static final String[] JUMPS = {"==", "!=", ">", ">=", "<", "<=", "&", "s>", "s>=", "s<", "s<="};

    private static Dice dice;
    private static StringBuilder text;
    private static int words;
    private static Known[] now;
    /** Of each instruction what is due there; null: it is not gone (or not looked at). */
    private static Known[][] due;
    private static boolean[] looked;
    private static boolean gone;
    private static int nothings = 0;
    private static int both = 0;

    public static void main(String[] args) {
        int seeds = args.length > 0 ? Integer.parseInt(args[0]) : 3000;
        for (int seed = 1; seed <= seeds; seed++) {
            program(seed);
        }
        House.due("some ways had NOTHING", nothings > 100, true);
        House.due("some jumps went both ways", both > 1000, true);
        House.end();
    }

    private static void program(int seed) {
        dice = new Dice(seed);
        text = new StringBuilder();
        words = 0;
        now = new Known[10];
        due = new Known[220][];
        looked = new boolean[220];
        gone = true;
        begin();
        while (words < 165 && gone) {
            step();
        }
        emit("exit");
        House house = new House();
        int fault = house.judge(0, text.toString());
        House.due("judge of seed " + seed, fault, 0);
        if (fault != 0) {
            System.out.println(house.house.told(0) + "\n" + text);
        }
        for (int i = 0; i < words; i++) {
            if (looked[i] && !check(house, seed, i)) {
                return;
            }
        }
    }

    private static boolean check(House house, int seed, int i) {
        for (int r = 0; r < 10; r++) {
            Known k = due[i] == null ? null : due[i][r];
            long kind = house.house.known(i, r, 0);
            House.due("kind of r" + r + " at " + i + " of seed " + seed, kind, due[i] == null ? -1 : k == null ? 0 : 1);
            if (k == null) {
                continue;
            }
            boolean same = true;
            for (int what = 1; what <= 6; what++) {
                long is = house.house.known(i, r, what);
                same &= is == k.field(what);
                House.due("known(" + i + ", " + r + ", " + what + ") of seed " + seed, is, k.field(what));
            }
            if (!same) {
                System.out.println(text);
                return false;
            }
        }
        return true;
    }

    private static void look() {
        looked[words] = true;
        due[words] = copies(now);
    }

    private static Known[] copies(Known[] from) {
        Known[] all = new Known[10];
        for (int r = 0; r < 10; r++) {
            all[r] = from[r] == null ? null : from[r].copy();
        }
        return all;
    }

    private static void emit(String line) {
        text.append(line).append('\n');
        words += line.endsWith(" ll") ? 2 : 1;
    }

    private static void begin() {
        for (int r = 6; r <= 9; r++) {
            boolean half = dice.odds(1, 3);
            emit(half ? "call 7" : "call 5");
            emit("r" + r + " = r0");
            now[0] = half ? Known.wide(4) : Known.any();
            now[r] = now[0].copy();
        }
        emit("*(u64 *)(r10 - 8) = r6");
        emit("*(u32 *)(r10 - 16) = r7");
        for (int r = 1; r <= 5; r++) {
            switch (dice.below(5)) {
                case 0:
                    int n = dice.of(1, 2, 4);
                    emit("r" + r + " = *(u" + 8 * n + " *)(r10 - 8)");
                    now[r] = Known.wide(n);
                    break;
                case 1:
                    int bits = dice.of(8, 16, 32);
                    emit("r" + r + " = *(s" + bits + " *)(r10 - 16)");
                    now[r] = Known.signsOf(bits);
                    break;
                default:
                    constant(r, dice.number());
                    break;
            }
        }
    }

    private static void constant(int r, long c) {
        emit("r" + r + " = " + c + " ll");
        now[r] = Known.number(c);
    }

    private static void step() {
        int d = dice.below(10);
        int s = dice.below(10);
        switch (dice.below(16)) {
            case 14:
            case 15:
                gaps(d);
                break;
            case 0:
                constant(d, dice.odds(1, 2) ? dice.number() : near(now[s]));
                look();
                break;
            case 1:
            case 2:
            case 3:
            case 4:
                operate(SIGNS[dice.below(SIGNS.length)], dice.odds(2, 3), d, s);
                break;
            case 5:
                operate("&", true, d, s);
                break;
            case 6:
                single(d, s);
                break;
            case 7:
                emit("call 5");
                now[0] = Known.any();
                for (int r = 1; r <= 5; r++) {
                    now[r] = null;
                }
                for (int r = 1; r <= 5; r++) {
                    if (dice.odds(1, 2)) {
                        emit("r" + r + " = r0");
                        now[r] = now[0].copy();
                    } else {
                        constant(r, dice.number());
                    }
                }
                look();
                break;
            default:
                jump(JUMPS[dice.below(JUMPS.length)], dice.odds(3, 4), d, s);
                break;
        }
    }

    /** Few bits are open, and the ranges are drawn together between the numbers that can be. */
    private static void gaps(int d) {
        int mask = dice.below(64);
        fixed("&", d, mask);
        fixed("|", d, dice.below(64) & ~mask);
        if (dice.odds(1, 4)) {
            fixed("<<", d, dice.of(1, 25, 26, 31, 32, 57, 58));
        }
        int n = 2 + dice.below(5);
        for (int i = 0; i < n && gone; i++) {
            jump(JUMPS[dice.below(JUMPS.length)], dice.odds(3, 4), d, dice.below(10));
        }
        if (gone && dice.odds(1, 2)) {
            operate(SIGNS[dice.below(SIGNS.length)], dice.odds(2, 3), d, dice.below(10));
        }
    }

    private static void fixed(String sign, int d, int imm) {
        emit("r" + d + " " + sign + "= " + imm);
        now[d] = Known.operate(sign, true, now[d], Known.number(imm));
        look();
    }

    /** A number near one of the ends of what is known. */
    private static long near(Known x) {
        return x.field(1 + dice.below(6)) + dice.of(0, 0, 1, -1, dice.below(9) - 4);
    }

    private static int imm(Known x, boolean shift, boolean divides, boolean wide) {
        if (shift) {
            return dice.below(wide ? 64 : 32);
        }
        long c = dice.odds(1, 2) ? near(x) : dice.odds(1, 2) ? dice.below(40) - 20 : dice.number();
        int i = (int) c;
        return divides && i == 0 ? 3 : i;
    }

    private static void operate(String sign, boolean wide, int d, int s) {
        String reg = wide ? "r" : "w";
        Known right;
        boolean shift = sign.contains("<<") || sign.contains(">>");
        if (dice.odds(1, 2)) {
            int imm = imm(now[d], shift, sign.contains("/") || sign.contains("%"), wide);
            right = Known.number(imm);
            emit(reg + d + " " + (sign.equals("=") ? "" : sign) + "= " + imm);
        } else {
            right = now[s];
            emit(reg + d + " " + (sign.equals("=") ? "" : sign) + "= " + reg + s);
        }
        now[d] = sign.equals("=") && wide ? right.copy() : Known.operate(sign, wide, now[d], right);
        look();
    }

    private static void single(int d, int s) {
        boolean wide = dice.odds(1, 2);
        String reg = wide ? "r" : "w";
        switch (dice.below(3)) {
            case 0:
                emit(reg + d + " = - " + reg + d);
                now[d] = Known.operate("neg", wide, now[d], now[d]);
                break;
            case 1:
                int bits = wide ? dice.of(8, 16, 32) : dice.of(8, 16);
                emit(reg + d + " = (s" + bits + ") " + reg + s);
                now[d] = Known.extended(bits, wide, now[s]);
                break;
            default:
                String name = new String[] {"le", "be", "bswap"}[dice.below(3)];
                int n = dice.of(16, 32, 64);
                emit("r" + d + " = " + name + n + " r" + d);
                now[d] = Known.turned(name, n, now[d]);
                break;
        }
        look();
    }

    private static void jump(String jump, boolean wide, int d, int s) {
        String reg = wide ? "r" : "w";
        boolean fixed = dice.odds(1, 2);
        Known x = now[d];
        Known y;
        String condition = "if " + reg + d + " " + jump + " ";
        if (fixed) {
            int imm = imm(x, false, false, wide);
            imm = jump.equals("&") && dice.odds(1, 2) ? 1 << dice.below(32) : imm;
            y = Known.number(imm);
            condition += imm;
        } else {
            y = now[s];
            condition += reg + s;
        }
        Known[][] ways = ways(jump, wide, d, fixed ? -1 : s, x, y);
        both += ways[0] != null && ways[1] != null ? 1 : 0;
        boolean goOnYes = ways[1] != null && (ways[0] == null || dice.odds(1, 2));
        emit(condition + " goto +1");
        if (goOnYes) {
            due[words] = ways[0];
            looked[words] = true;
            emit("exit");
        } else {
            due[words] = ways[0];
            looked[words] = true;
            emit("goto +1");
            due[words] = ways[1];
            looked[words] = true;
            emit("exit");
        }
        Known[] on = goOnYes ? ways[1] : ways[0];
        looked[words] = true;
        due[words] = on == null ? null : copies(on);
        gone = on != null;
        now = on == null ? now : copies(on);
    }

    /** What is known on the way on which it is not so, and on which it is; null: it is not gone. */
    private static Known[][] ways(String jump, boolean wide, int d, int s, Known x, Known y) {
        int verdict = Known.decided(jump, wide, x, y);
        if (verdict >= 0) {
            return new Known[][] {verdict == 0 ? copies(now) : null, verdict == 1 ? copies(now) : null};
        }
        Known[][] ways = {copies(now), copies(now)};
        Known counted = s < 0 && !wide ? y.cut() : y;
        BigInteger f = BigInteger.valueOf(0xFFFFFFFFL);
        boolean far = x.u2.compareTo(f) > 0 || counted.u2.compareTo(f) > 0;
        if (s == d || !wide && (far || jump.startsWith("s"))) {
            return ways;
        }
        for (int so = 0; so <= 1; so++) {
            Known a = x.copy();
            Known b = counted.copy();
            Known.narrow(jump, so == 1, a, b);
            boolean nothing = a.tidy().nothing;
            ways[so][d] = a;
            if (s >= 0) {
                nothing |= b.tidy().nothing;
                ways[so][s] = b;
            }
            if (nothing) {
                nothings++;
                ways[so] = null;
            }
        }
        return ways;
    }
}
