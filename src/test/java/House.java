import java.nio.charset.StandardCharsets;

/** A FilterHouse for tests: feeds texts and bytes, and counts answers that are not as due. */
final class House {
    private static long wrong = 0;
    private static long checked = 0;

    final FilterHouse house = new FilterHouse();

    static void due(String call, long got, long want) {
        checked++;
        if (got != want) {
            wrong++;
            System.out.println(call + " answered " + got + ", due is " + want);
        }
    }

    static void due(String call, boolean got, boolean want) {
        due(call, got ? 1 : 0, want ? 1 : 0);
    }

    static void due(String call, String got, String want) {
        checked++;
        if (!got.equals(want)) {
            wrong++;
            System.out.println(call + " answered <" + got + ">, due is <" + want + ">");
        }
    }

    static void end() {
        System.out.println(checked + " answers, " + wrong + " of them wrong");
        if (wrong != 0) {
            System.exit(1);
        }
    }

    /** The tape has these bytes and no others. */
    House tape(byte[] bytes) {
        house.cut(0);
        for (int i = 0; i < bytes.length; i += 20) {
            int[] five = new int[5];
            for (int k = 0; k < 20; k++) {
                int b = i + k < bytes.length ? bytes[i + k] & 255 : 0;
                five[k / 4] = five[k / 4] << 8 | b;
            }
            house.feed(five[0], five[1], five[2], five[3], five[4]);
        }
        house.cut(bytes.length);
        return this;
    }

    House tape(int... bytes) {
        byte[] all = new byte[bytes.length];
        for (int i = 0; i < bytes.length; i++) {
            all[i] = (byte) bytes[i];
        }
        return tape(all);
    }

    House tapeText(String text) {
        return tape(text.getBytes(StandardCharsets.ISO_8859_1));
    }

    House tapeWords(long... words) {
        byte[] all = new byte[8 * words.length];
        for (int i = 0; i < all.length; i++) {
            all[i] = (byte) (words[i / 8] >> 8 * (i % 8));
        }
        return tape(all);
    }

    int assemble(int slot, String text) {
        return tapeText(text).house.assemble(slot);
    }

    /** Assembles (which must succeed) and judges. */
    int judge(int slot, String text) {
        int n = assemble(slot, text);
        if (n <= 0) {
            due("assemble of <" + text + ">", n, 1);
        }
        return house.judge(slot);
    }

    /** What a program's run answers, both ways (which must agree), when it is taken. */
    long run(int slot, String text) {
        due("judge of <" + text + ">", judge(slot, text), 0);
        int steps = house.run(slot, 0);
        long result = house.result();
        due("steps of <" + text + ">", house.run(slot, 1), steps);
        due("way 1 of <" + text + ">", house.result(), result);
        return result;
    }

    String out() {
        StringBuilder text = new StringBuilder();
        for (int i = 0; i < house.outs(); i++) {
            text.append((char) house.out(i));
        }
        return text.toString();
    }

    String printed(int slot) {
        house.print(slot);
        return out();
    }
}
