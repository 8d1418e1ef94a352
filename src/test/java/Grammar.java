import java.math.BigInteger;
import java.util.ArrayList;
import java.util.HashMap;
import java.util.HashSet;
import java.util.List;
import java.util.Map;
import java.util.Set;
import java.util.regex.Matcher;
import java.util.regex.Pattern;

/**
 * Part 2, TEXTS, written once more for tests: all forms that a STATEMENT may have stand in a list, and the first
 * token that cannot stand where it does is the one behind the longest beginning that some form has.
 */
final class Grammar {
    private static final Pattern TOKENS = Pattern.compile("(?<name>[A-Za-z_][A-Za-z0-9_]*)|(?<number>0x[0-9a-fA-F]+|[0-9]+)"
            + "|(?<sign><<=|>>=|==|!=|\\+=|-=|\\*=|/=|%=|&=|\\|=|\\^=|>=|<=|[():,=+\\-*/%&|^><])|(?<line>\n)|(?<blank>[ \t]|;[^\n]*)|(?<odd>.)",
            Pattern.DOTALL);

    record Token(String kind, int begin, String text) {
        boolean ends() {
            return kind.equals("line") || kind.equals("end");
        }

        /** 0 .. 10 of this kind of register; -1: it is none. */
        int register(char of) {
            return kind.equals("name") && text.matches(of + "([0-9]|10)") ? Integer.parseInt(text.substring(1)) : -1;
        }

        BigInteger number() {
            return text.startsWith("0x") ? new BigInteger(text.substring(2), 16) : new BigInteger(text);
        }
    }

    /** A form: what stands in it, and the word without that. */
    record Form(String[] parts, long base) {
    }

    /** The greatest numbers; behind a - those of the other ones. */
    private static final Map<String, BigInteger> MOST = new HashMap<>();
    static final List<Form> FORMS = new ArrayList<>();

    static {
        MOST.put("#const", BigInteger.valueOf(0xFFFFFFFFL));
        MOST.put("#-const", BigInteger.valueOf(0x80000000L));
        MOST.put("#off", BigInteger.valueOf(32767));
        MOST.put("#-off", BigInteger.valueOf(32768));
        MOST.put("#far", BigInteger.valueOf(0x7FFFFFFFL));
        MOST.put("#-far", BigInteger.valueOf(0x80000000L));
        MOST.put("#map", BigInteger.valueOf(7));
        MOST.put("#word", BigInteger.ONE.shiftLeft(64).subtract(BigInteger.ONE));
        MOST.put("#wide", BigInteger.ONE.shiftLeft(64).subtract(BigInteger.ONE));
        MOST.put("#-wide", BigInteger.ONE.shiftLeft(63));
        alu();
        taken();
        memory();
        leading();
    }

    private static void form(String text, long base) {
        FORMS.add(new Form(text.split(" "), base));
    }

    private static void consts(String text, long base) {
        form(text + " #const", base);
        form(text + " - #-const", base);
    }

    private static void alu() {
        String[] signs = {"=", "+=", "-=", "*=", "/=", "%=", "&=", "|=", "^=", "<<=", ">>=", "s /=", "s %=", "s >>="};
        int[] codes = {0xB0, 0x00, 0x10, 0x20, 0x30, 0x90, 0x50, 0x40, 0xA0, 0x60, 0x70, 0x10030, 0x10090, 0xC0};
        for (String k : new String[] {"r", "w"}) {
            int low = k.equals("r") ? 7 : 4;
            for (int i = 0; i < signs.length; i++) {
                form("$" + k + "D " + signs[i] + " $" + k + "S", codes[i] + 8 + low);
                consts("$" + k + "D " + signs[i], codes[i] + low);
            }
            form("$" + k + "D = - $" + k + "=", 0x80 + low);
            for (int bits = 8; bits <= 32; bits *= 2) {
                form("$" + k + "D = ( s" + bits + " ) $" + k + "S", 0xB8 + low + (bits << 16));
            }
        }
    }

    private static void taken() {
        for (long bits = 16; bits <= 64; bits *= 2) {
            form("$rD = le" + bits + " $r=", 0xD4 + (bits << 32));
            form("$rD = be" + bits + " $r=", 0xDC + (bits << 32));
            form("$rD = bswap" + bits + " $r=", 0xD7 + (bits << 32));
        }
        form("$rD = #wide ll", 0x18);
        form("$rD = - #-wide ll", 0x18);
        form("$rD = map #map", 0x1018);
    }

    private static void memory() {
        String[] types = {"u32", "u16", "u8", "u64", "s32", "s16", "s8"};
        int[] sizes = {0x00, 0x08, 0x10, 0x18, 0x20, 0x28, 0x30};
        String[] more = {"+ #off", "- #-off"};
        for (int i = 0; i < types.length; i++) {
            for (String off : more) {
                String place = "* ( " + types[i] + " * ) ( $r? " + off + " )";
                form("$rD = " + place.replace('?', 'S'), 0x61 + sizes[i]);
                if (i < 4) {
                    place = place.replace('?', 'D');
                    form(place + " = $rS", 0x63 + sizes[i]);
                    consts(place + " =", 0x62 + sizes[i]);
                    exchanges(place, 0xC3 + sizes[i]);
                }
            }
        }
    }

    private static void exchanges(String place, long base) {
        String[] signs = {" += ", " |= ", " &= ", " ^= "};
        long[] imms = {0x00, 0x40, 0x50, 0xA0};
        for (int i = 0; i < 4; i++) {
            form("lock " + place + signs[i] + "$rS", base + (imms[i] << 32));
            form("fetch " + place + signs[i] + "$rS", base + (imms[i] + 1 << 32));
        }
        form("xchg " + place + " $rS", base + (0xE1L << 32));
        form("cmpxchg " + place + " $rS", base + (0xF1L << 32));
    }

    private static void leading() {
        String[] signs = {"==", "!=", ">", ">=", "<", "<=", "&", "s >", "s >=", "s <", "s <="};
        int[] codes = {0x10, 0x50, 0x20, 0x30, 0xA0, 0xB0, 0x40, 0x60, 0x70, 0xC0, 0xD0};
        for (String where : new String[] {"@", "+ #off", "- #-off"}) {
            for (int i = 0; i < signs.length; i++) {
                for (String k : new String[] {"r", "w"}) {
                    int low = k.equals("r") ? 5 : 6;
                    String begin = "if $" + k + "D " + signs[i];
                    form(begin + " $" + k + "S goto " + where, codes[i] + 8 + low);
                    form(begin + " #const goto " + where, codes[i] + low);
                    form(begin + " - #-const goto " + where, codes[i] + low);
                }
            }
            form("goto " + where, 0x05);
            String far = where.replace("off", "far");
            form("gotol " + far, 0x06);
            form("call " + far, 0x1085);
        }
        form("call #far", 0x85);
        form("exit", 0x95);
        form("word #word", 0);
    }

    private final List<Token> tokens = new ArrayList<>();
    private final Map<String, Integer> labels = new HashMap<>();
    /** Names of a WHERE: the token, the word. */
    private final List<Token> links = new ArrayList<>();
    private final List<Integer> linked = new ArrayList<>();
    final List<Long> words = new ArrayList<>();
    /** Where it is WRONG, or -1. */
    int wrong = -1;

    Grammar(String text) {
        Matcher m = TOKENS.matcher(text);
        while (m.find()) {
            for (String kind : new String[] {"name", "number", "sign", "line", "odd"}) {
                if (m.group(kind) != null) {
                    tokens.add(new Token(kind, m.start(), m.group()));
                }
            }
        }
        tokens.add(new Token("end", text.length(), ""));
        int i = 0;
        while (i < tokens.size() && wrong < 0) {
            i = readLine(i);
        }
        resolve();
        if (wrong < 0 && words.isEmpty()) {
            wrong = text.length();
        }
    }

    private static boolean isRegister(Token t) {
        return t.register('r') >= 0 || t.register('w') >= 0;
    }

    /** The token behind the line. */
    private int readLine(int from) {
        int i = from;
        Token t = tokens.get(i);
        if (t.kind.equals("name") && !isRegister(t) && tokens.get(i + 1).text.equals(":")) {
            if (labels.containsKey(t.text)) {
                wrong = t.begin;
                return i;
            }
            labels.put(t.text, words.size());
            i += 2;
        }
        if (tokens.get(i).ends()) {
            return i + 1;
        }
        int longest = 0;
        for (Form form : FORMS) {
            int n = fits(form, i);
            longest = Math.max(longest, n);
            if (n == form.parts.length && tokens.get(i + n).ends()) {
                add(form, i);
                return i + n + 1;
            }
        }
        wrong = tokens.get(i + longest).begin;
        return i;
    }

    /** How many tokens stand as this form has them. */
    private int fits(Form form, int from) {
        int first = -1;
        for (int k = 0; k < form.parts.length; k++) {
            Token t = tokens.get(from + k);
            String part = form.parts[k];
            boolean good;
            if (part.startsWith("$")) {
                int r = t.register(part.charAt(1));
                good = r >= 0 && (part.charAt(2) != '=' || r == first);
                first = first < 0 ? r : first;
            } else if (part.startsWith("#")) {
                good = t.kind.equals("number") && t.number().compareTo(MOST.get(part)) <= 0
                        && (!part.endsWith("wide") || tokens.get(from + k + 1).text.equals("ll"));
            } else if (part.equals("@")) {
                good = t.kind.equals("name") && !isRegister(t);
            } else {
                good = t.text.equals(part);
            }
            if (!good) {
                return k;
            }
        }
        return form.parts.length;
    }

    private void add(Form form, int from) {
        long w = form.base;
        long second = 0;
        int many = (form.base & 0xFF) == 0x18 ? 2 : 1;
        for (int k = 0; k < form.parts.length; k++) {
            Token t = tokens.get(from + k);
            String part = form.parts[k];
            if (part.startsWith("$") && part.charAt(2) != '=') {
                w |= (long) t.register(part.charAt(1)) << (part.charAt(2) == 'D' ? 8 : 12);
            } else if (part.startsWith("#")) {
                long x = part.startsWith("#-") ? -t.number().longValue() : t.number().longValue();
                w |= part.endsWith("word") ? x : part.endsWith("off") ? (x & 0xFFFF) << 16 : x << 32;
                second = part.endsWith("wide") ? x & 0xFFFFFFFF00000000L : 0;
            } else if (part.equals("@")) {
                links.add(t);
                linked.add(words.size());
            }
        }
        boolean good = form.parts[0].equals("word") || (many == 2 ? (w >> 8 & 15) <= 9 : Walk.isOne(w));
        if (!good || words.size() + many > 200) {
            wrong = tokens.get(from).begin;
            return;
        }
        words.add(w);
        if (many == 2) {
            words.add(second);
        }
    }

    private void resolve() {
        for (int i = 0; i < links.size() && wrong < 0; i++) {
            Integer to = labels.get(links.get(i).text);
            if (to == null) {
                wrong = links.get(i).begin;
                return;
            }
            int at = linked.get(i);
            long far = to - at - 1;
            long w = words.get(at);
            boolean imm = (w & 0xFF) == 0x06 || (w & 0xFF) == 0x85;
            words.set(at, w | (imm ? far << 32 : (far & 0xFFFF) << 16));
        }
    }

    /** The names that stand in forms, for texts made by dice. */
    static Set<String> names() {
        Set<String> names = new HashSet<>();
        for (Form form : FORMS) {
            for (String part : form.parts) {
                if (Character.isLetter(part.charAt(0))) {
                    names.add(part);
                }
            }
        }
        return names;
    }

    static BigInteger most(String part) {
        return MOST.get(part);
    }
}
