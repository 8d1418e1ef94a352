import java.math.BigInteger;
import java.util.ArrayList;
import java.util.List;
import java.util.TreeSet;

/** Part 2: texts made by dice, with faults, are read as Grammar, another writing of it, reads them. */
public final class GrammarTest {
    private static final String[] LABELS = {"a", "b", "out", "_", "L1", "exit", "if", "s", "ll", "map", "le16", "r11", "w100", "word", "x_9"};
    private static final String SIGNS = "(:),=+-*/%&|^<>!.$#\"'\\[]{}@~?;\t\r\0\u00e9\u007f";
    private static final List<String> NAMES = new ArrayList<>(new TreeSet<>(Grammar.names()));

    private static Dice dice;
    private static int right = 0;
    private static int wrong = 0;

    public static void main(String[] args) {
        int from = args.length > 1 ? Integer.parseInt(args[1]) : 1;
        int seeds = args.length > 0 ? Integer.parseInt(args[0]) : 2500;
        House house = new House();
        for (int seed = from; seed < from + seeds; seed++) {
            dice = new Dice(seed);
            house = seed % 40 == 0 ? new House() : house;
            String text = text();
            if (text.length() <= 4000) {
                read(house, text, "text of seed " + seed);
            }
        }
        System.out.println(right + " right, " + wrong + " wrong");
        House.due("many are right", right > seeds / 10, true);
        House.due("many are wrong", wrong > seeds / 4, true);
        House.end();
    }

    private static void read(House house, String text, String name) {
        Grammar grammar = new Grammar(text);
        int due = grammar.wrong < 0 ? grammar.words.size() : -10 - grammar.wrong;
        right += grammar.wrong < 0 ? 1 : 0;
        wrong += grammar.wrong < 0 ? 0 : 1;
        int is = house.assemble(5, text);
        House.due("assemble of " + name, is, due);
        if (is != due) {
            System.out.println("<" + text + ">");
            return;
        }
        if (grammar.wrong < 0) {
            for (int i = 0; i < due; i++) {
                House.due("word " + i + " of " + name, house.house.word(5, i), grammar.words.get(i));
            }
        }
    }

    private static String text() {
        StringBuilder text = new StringBuilder();
        int lines = dice.of(0, 1, 1, 2, 3, 6, 20, 60, 205);
        int odds = dice.of(3, 20, 300, 1000000);
        for (int i = 0; i < lines; i++) {
            List<String> tokens = line(odds);
            // one line in a long text that is wrong by itself hides the others
            for (int turn = 0; turn < 20 && odds > 100 && new Grammar(String.join(" ", tokens)).wrong >= 0; turn++) {
                tokens = line(odds);
            }
            change(tokens, odds);
            write(text, tokens, odds);
            if (i + 1 < lines || dice.odds(1, 2)) {
                text.append('\n');
            }
        }
        return text.toString();
    }

    private static List<String> line(int odds) {
        List<String> tokens = new ArrayList<>();
        if (dice.odds(1, 6)) {
            tokens.add(odds > 100 ? "L" + dice.below(1000) : LABELS[dice.below(LABELS.length)]);
            tokens.add(":");
        }
        if (dice.odds(1, 12)) {
            return tokens;
        }
        Grammar.Form form = Grammar.FORMS.get(dice.below(Grammar.FORMS.size()));
        String first = "0";
        for (String part : form.parts()) {
            if (part.startsWith("$")) {
                String r = part.charAt(2) == '=' && !dice.odds(1, odds) ? first : "" + (dice.odds(1, 20) ? 10 : dice.below(10));
                first = part.charAt(2) == 'D' ? r : first;
                tokens.add(part.charAt(1) + r);
            } else if (part.startsWith("#")) {
                tokens.add(number(part, odds));
            } else if (part.equals("@") && odds > 100) {
                tokens.remove(tokens.size() - 1);
                tokens.add("exit");
                return tokens.size() > 2 ? new ArrayList<>(List.of("goto", "+", "1")) : tokens;
            } else {
                tokens.add(part.equals("@") ? LABELS[dice.below(LABELS.length)] : part);
            }
        }
        return tokens;
    }

    private static String number(String part, int odds) {
        BigInteger most = Grammar.most(part);
        BigInteger x = dice.odds(1, 2) ? BigInteger.valueOf(dice.below(70)) : dice.odds(1, 2) ? most : new BigInteger(64, new java.util.Random(dice.bits())).mod(most);
        x = x.min(most);
        if (dice.odds(1, odds)) {
            x = dice.odds(1, 2) ? most.add(BigInteger.ONE) : new BigInteger(70, new java.util.Random(dice.bits()));
        }
        String zeros = dice.odds(1, 20) ? "000" : "";
        String hex = x.toString(16);
        return dice.odds(1, 3) ? "0x" + zeros + (dice.odds(1, 2) ? hex.toUpperCase() : hex) : zeros + x;
    }

    private static String anyToken() {
        switch (dice.below(5)) {
            case 0:
                return dice.of(0, 1) == 0 ? "r" + dice.below(12) : "w" + dice.below(12);
            case 1:
                return NAMES.get(dice.below(NAMES.size()));
            case 2:
                return number(dice.odds(1, 2) ? "#const" : "#off", 5);
            case 3:
                return LABELS[dice.below(LABELS.length)];
            default:
                return new String[] {"=", "+=", "-", "+", "*", "(", ")", ":", "<", "<<=", ">>=", "==", "&", ",", "\n"}[dice.below(15)];
        }
    }

    private static void change(List<String> tokens, int odds) {
        while (dice.odds(1, odds)) {
            int n = tokens.size();
            int i = dice.below(n + 1);
            switch (dice.below(4)) {
                case 0:
                    tokens.add(i, anyToken());
                    break;
                case 1:
                    if (i < n) {
                        tokens.remove(i);
                    }
                    break;
                case 2:
                    if (i < n) {
                        tokens.set(i, anyToken());
                    }
                    break;
                default:
                    if (i + 1 < n) {
                        tokens.set(i, tokens.set(i + 1, tokens.get(i)));
                    }
                    break;
            }
        }
    }

    private static boolean isWord(char c) {
        return Character.isLetterOrDigit(c) || c == '_';
    }

    private static void write(StringBuilder text, List<String> tokens, int odds) {
        for (String token : tokens) {
            int n = text.length();
            boolean parts = n > 0 && !token.isEmpty() && isWord(text.charAt(n - 1)) && isWord(token.charAt(0));
            boolean joins = n > 0 && !token.isEmpty() && !isWord(text.charAt(n - 1)) && !isWord(token.charAt(0));
            if (dice.odds(1, 2) || (parts || joins) && !dice.odds(1, odds)) {
                text.append(dice.odds(1, 9) ? "\t " : " ");
            }
            text.append(token);
            if (dice.odds(1, 5 * odds)) {
                text.append(SIGNS.charAt(dice.below(SIGNS.length())));
            }
        }
        if (dice.odds(1, 9)) {
            text.append(dice.odds(1, 2) ? " ; goto : $ r1 = 5" : ";");
        }
    }
}
