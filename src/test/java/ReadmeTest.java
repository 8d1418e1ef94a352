import java.nio.charset.StandardCharsets;

/** What README.md says of the calls, in its order. */
public final class ReadmeTest {
    public static void main(String[] args) {
        FilterHouse x = new FilterHouse();
        told(x);
        bytes(x);
        faults(x);
        packets(x);
        tables(x);
        others(x);
        House.end();
    }

    static void tape(FilterHouse x, byte[] bytes) {
        x.cut(0);
        for (int i = 0; i < bytes.length; i += 20) {
            int[] five = new int[5];
            for (int k = 0; k < 20; k++) {
                five[k / 4] = five[k / 4] << 8 | (i + k < bytes.length ? bytes[i + k] & 255 : 0);
            }
            x.feed(five[0], five[1], five[2], five[3], five[4]);
        }
        x.cut(bytes.length);
    }

    static void text(FilterHouse x, String text) {
        tape(x, text.getBytes(StandardCharsets.ISO_8859_1));
    }

    static byte[] out(FilterHouse x) {
        byte[] bytes = new byte[x.outs()];
        for (int i = 0; i < bytes.length; i++) {
            bytes[i] = (byte) x.out(i);
        }
        return bytes;
    }

    private static void outIs(FilterHouse x, int... due) {
        byte[] is = out(x);
        House.due("outs()", is.length, due.length);
        for (int i = 0; i < due.length && i < is.length; i++) {
            House.due("out(" + i + ")", is[i], due[i]);
        }
    }

    private static void told(FilterHouse x) {
        text(x, "r0 = 5\nexit\n");
        House.due("assemble(0)", x.assemble(0), 2);
        House.due("judge(0)", x.judge(0), 0);
        House.due("told(3)", x.told(3), 2);
        House.due("run(0, 0)", x.run(0, 0), 2);
        House.due("result()", x.result(), 5);
        House.due("run(0, 1)", x.run(0, 1), 2);
        House.due("result()", x.result(), 5);
        House.due("print(0)", x.print(0), 12);
        House.due("out", new String(out(x), StandardCharsets.ISO_8859_1), "r0 = 5\nexit\n");
    }

    private static void bytes(FilterHouse x) {
        tape(x, new byte[] {(byte) 0xB7, 0, 0, 0, 5, 0, 0, 0, (byte) 0x95, 0, 0, 0, 0, 0, 0, 0});
        House.due("load(1)", x.load(1), 2);
        House.due("word(1, 0)", x.word(1, 0), 0x5000000B7L);
    }

    private static void faults(FilterHouse x) {
        text(x, "r0 = 1\nr10 += 1\nexit\n");
        House.due("assemble(2)", x.assemble(2), -17);
        House.due("words(2)", x.words(2), 0);
        text(x, "r2 = *(u32 *)(r1 + 0)\nr0 = *(u8 *)(r2 + 0)\nexit\n");
        House.due("assemble(2)", x.assemble(2), 3);
        House.due("judge(2)", x.judge(2), 5);
        House.due("told(0)", x.told(0), 1);
        House.due("known(1, 2, 0)", x.known(1, 2, 0), 7);
        House.due("run(2, 0)", x.run(2, 0), FilterHouse.NONE);
    }

    private static void packets(FilterHouse x) {
        text(x, "r2 = *(u32 *)(r1 + 0)\nr3 = *(u32 *)(r1 + 4)\nr0 = 0\nr4 = r2\nr4 += 2\nif r4 > r3 goto out\n"
            + "r0 = *(u16 *)(r2 + 0)\nr0 = be16 r0\n*(u32 *)(r1 + 12) = r0\nout: exit\n");
        House.due("assemble(3)", x.assemble(3), 10);
        House.due("judge(3)", x.judge(3), 0);
        tape(x, new byte[] {8, 0, 69});
        House.due("packet()", x.packet(), 3);
        x.given(7, 1);
        House.due("run(3, 0)", x.run(3, 0), 10);
        House.due("result()", x.result(), 0x0800);
        House.due("mark()", x.mark(), 0x0800);
    }

    private static void tables(FilterHouse x) {
        House.due("map(0, 1, 2, 4, 8)", x.map(0, 1, 2, 4, 8), true);
        tape(x, new byte[] {1, 0, 40, 0, 0, 0});
        House.due("put(0, 0)", x.put(0, 0), 0);
        text(x, "*(u16 *)(r10 - 2) = 1\nr1 = map 0\nr2 = r10\nr2 += -2\ncall 1\nif r0 == 0 goto out\n"
            + "r1 = 2\nlock *(u32 *)(r0 + 0) += r1\nr0 = *(u32 *)(r0 + 0)\nout: exit\n");
        House.due("assemble(4)", x.assemble(4), 11);
        House.due("judge(4)", x.judge(4), 0);
        House.due("run(4, 0)", x.run(4, 0), 10);
        House.due("result()", x.result(), 42);
        House.due("run(4, 1)", x.run(4, 1), 10);
        House.due("result()", x.result(), 44);
        tape(x, new byte[] {1, 0});
        House.due("get(0)", x.get(0), 4);
        outIs(x, 44, 0, 0, 0);
        House.due("entry(0, 0)", x.entry(0, 0), 6);
        outIs(x, 1, 0, 44, 0, 0, 0);
        House.due("size(0)", x.size(0), 1);
        tape(x, new byte[] {1, 0});
        House.due("remove(0)", x.remove(0), 0);
    }

    private static void others(FilterHouse x) {
        House.due("map(1, 2, 0, 0, 4)", x.map(1, 2, 0, 0, 4), true);
        House.due("link(1, 3, 4)", x.link(1, 3, 4), true);
        text(x, "r2 = map 1\nr3 = 3\ncall 12\nr0 = -1\nexit\n");
        House.due("assemble(5)", x.assemble(5), 6);
        House.due("judge(5)", x.judge(5), 0);
        House.due("run(5, 0)", x.run(5, 0), 10);
        House.due("tails()", x.tails(), 1);
        House.due("map(2, 3, 0, 0, 2)", x.map(2, 3, 0, 0, 2), true);
        text(x, "r1 = map 2\nr2 = 4\nr3 = 0\ncall 131\nif r0 == 0 goto out\n*(u32 *)(r0 + 0) = 9\nr1 = r0\nr2 = 0\n"
            + "call 132\nout: r0 = 0\nexit\n");
        House.due("assemble(6)", x.assemble(6), 12);
        House.due("judge(6)", x.judge(6), 0);
        House.due("run(6, 1)", x.run(6, 1), 11);
        House.due("next(2)", x.next(2), 4);
        outIs(x, 9, 0, 0, 0);
        House.due("next(2)", x.next(2), FilterHouse.NONE);
    }
}
