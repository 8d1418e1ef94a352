/** Promises 15 to 22: map, put, get, remove, entry, size, link, next. */
public final class MapTest {
    public static void main(String[] args) {
        telling();
        rows();
        tables();
        order();
        programs();
        records();
        apart();
        wrongMaps();
        House.end();
    }

    private static int put(House house, int m, int flags, int... bytes) {
        return house.tape(bytes).house.put(m, flags);
    }

    private static int get(House house, int m, int... bytes) {
        return house.tape(bytes).house.get(m);
    }

    private static int remove(House house, int m, int... bytes) {
        return house.tape(bytes).house.remove(m);
    }

    private static void outIs(House house, int... bytes) {
        House.due("outs", house.house.outs(), bytes.length);
        for (int i = 0; i < bytes.length; i++) {
            House.due("out " + i, house.house.out(i), bytes[i]);
        }
    }

    private static void telling() {
        int[][] bad = {{-1, 1, 1, 1, 1}, {8, 1, 1, 1, 1}, {0, -1, 4, 1, 1}, {0, 4, 0, 0, 1}, {0, 0, 3, 1, 1}, {0, 0, 5, 1, 1}, {0, 0, 4, 0, 1},
            {0, 0, 4, 65, 1}, {0, 0, 4, 1, 0}, {0, 0, 4, 1, 17}, {0, 1, 0, 1, 1}, {0, 1, 17, 1, 1}, {0, 1, 1, 0, 1}, {0, 1, 1, 65, 1}, {0, 1, 1, 1, 0},
            {0, 1, 1, 1, 17}, {0, 2, 4, 0, 1}, {0, 2, 0, 1, 1}, {0, 2, 0, 0, 0}, {0, 2, 0, 0, 17}, {0, 3, 0, 8, 1}, {0, 3, 1, 0, 1}, {0, 3, 0, 0, -1},
            {0, 3, 0, 0, 17}};
        FilterHouse x = new FilterHouse();
        for (int[] b : bad) {
            House.due("map of " + java.util.Arrays.toString(b), x.map(b[0], b[1], b[2], b[3], b[4]), false);
        }
        House.due("size of no map", x.size(0), -1);
        int[][] good = {{0, 0, 4, 64, 16}, {1, 0, 4, 1, 1}, {2, 1, 1, 1, 1}, {3, 1, 16, 64, 16}, {4, 2, 0, 0, 16}, {5, 2, 0, 0, 1}, {6, 3, 0, 0, 16}, {7, 3, 0, 0, 1}};
        int[] size = {16, 1, 0, 0, 0, 0, 0, 0};
        for (int[] g : good) {
            House.due("map " + g[0], x.map(g[0], g[1], g[2], g[3], g[4]), true);
            House.due("map " + g[0] + " again", x.map(g[0], g[1], g[2], g[3], g[4]), false);
            House.due("size " + g[0], x.size(g[0]), size[g[0]]);
        }
    }

    private static void rows() {
        House house = new House();
        house.house.map(0, 0, 4, 3, 2);
        House.due("get of what was never put", get(house, 0, 1, 0, 0, 0), 3);
        outIs(house, 0, 0, 0);
        House.due("put", put(house, 0, 0, 1, 0, 0, 0, 7, 8, 255), 0);
        House.due("get", get(house, 0, 1, 0, 0, 0), 3);
        outIs(house, 7, 8, 255);
        House.due("get of the other", get(house, 0, 0, 0, 0, 0), 3);
        outIs(house, 0, 0, 0);
        House.due("put 2", put(house, 0, 2, 0, 0, 0, 0, 1, 2, 3), 0);
        House.due("put 1", put(house, 0, 1, 0, 0, 0, 0, 4, 5, 6), -17);
        House.due("put 3", put(house, 0, 3, 0, 0, 0, 0, 4, 5, 6), -22);
        House.due("put -1", put(house, 0, -1, 0, 0, 0, 0, 4, 5, 6), -22);
        House.due("put 3 beyond", put(house, 0, 3, 2, 0, 0, 0, 4, 5, 6), -22);
        House.due("put beyond", put(house, 0, 0, 2, 0, 0, 0, 4, 5, 6), -7);
        House.due("put 1 beyond", put(house, 0, 1, 2, 0, 0, 0, 4, 5, 6), -7);
        House.due("put 2 beyond", put(house, 0, 2, 0, 1, 0, 0, 4, 5, 6), -7);
        House.due("put below", put(house, 0, 0, 255, 255, 255, 255, 4, 5, 6), -7);
        House.due("get beyond", get(house, 0, 2, 0, 0, 0), -2);
        House.due("get below", get(house, 0, 0, 0, 0, 128), -2);
        House.due("remove", remove(house, 0, 0, 0, 0, 0), -22);
        House.due("remove beyond", remove(house, 0, 9, 0, 0, 0), -22);
        House.due("get", get(house, 0, 0, 0, 0, 0), 3);
        outIs(house, 1, 2, 3);
        House.due("entry of a ROW", house.house.entry(0, 0), -1);
        outIs(house, 1, 2, 3);
        House.due("size", house.house.size(0), 2);
    }

    private static void tables() {
        House house = new House();
        house.house.map(1, 1, 2, 3, 2);
        House.due("get", get(house, 1, 1, 2), -2);
        House.due("put 2", put(house, 1, 2, 1, 2, 3, 4, 5), -2);
        House.due("size", house.house.size(1), 0);
        House.due("put 1", put(house, 1, 1, 1, 2, 3, 4, 5), 0);
        House.due("put 1 again", put(house, 1, 1, 1, 2, 9, 9, 9), -17);
        House.due("put 7", put(house, 1, 7, 1, 2, 9, 9, 9), -22);
        House.due("get", get(house, 1, 1, 2), 3);
        outIs(house, 3, 4, 5);
        House.due("put 0", put(house, 1, 0, 1, 2, 6, 7, 8), 0);
        House.due("put 2", put(house, 1, 2, 1, 2, 200, 7, 8), 0);
        House.due("size", house.house.size(1), 1);
        House.due("put another", put(house, 1, 0, 1, 3, 1, 1, 1), 0);
        House.due("put a third", put(house, 1, 0, 1, 4, 1, 1, 1), -7);
        House.due("put 1, a third", put(house, 1, 1, 1, 4, 1, 1, 1), -7);
        House.due("put 2, a third", put(house, 1, 2, 1, 4, 1, 1, 1), -2);
        House.due("entry 0", house.house.entry(1, 0), 5);
        outIs(house, 1, 2, 200, 7, 8);
        House.due("entry 1", house.house.entry(1, 1), 5);
        outIs(house, 1, 3, 1, 1, 1);
        House.due("entry 2", house.house.entry(1, 2), -1);
        House.due("entry -1", house.house.entry(1, -1), -1);
        House.due("remove", remove(house, 1, 9, 9), -2);
        House.due("remove", remove(house, 1, 1, 2), 0);
        House.due("remove again", remove(house, 1, 1, 2), -2);
        House.due("size", house.house.size(1), 1);
        House.due("entry 0", house.house.entry(1, 0), 5);
        outIs(house, 1, 3, 1, 1, 1);
        House.due("entry 1", house.house.entry(1, 1), -1);
        // outside of runs cells are free at once: much more than 32 come and go
        for (int i = 0; i < 100; i++) {
            House.due("put " + i, put(house, 1, 1, i, 9, i, i, i), 0);
            House.due("remove " + i, remove(house, 1, i, 9), 0);
        }
    }

    private static void order() {
        House house = new House();
        house.house.map(7, 1, 1, 1, 16);
        for (int i = 0; i < 16; i++) {
            House.due("put " + i, put(house, 7, 0, 50 - i, i), 0);
        }
        House.due("put of a 17th", put(house, 7, 0, 99, 9), -7);
        remove(house, 7, 47);
        put(house, 7, 0, 47, 77);
        put(house, 7, 0, 49, 99);
        int[] keys = {50, 49, 48, 46, 45, 44, 43, 42, 41, 40, 39, 38, 37, 36, 35, 47};
        int[] values = {0, 99, 2, 4, 5, 6, 7, 8, 9, 10, 11, 12, 13, 14, 15, 77};
        for (int i = 0; i < 16; i++) {
            House.due("entry " + i, house.house.entry(7, i), 2);
            outIs(house, keys[i], values[i]);
        }
        House.due("size", house.house.size(7), 16);
    }

    private static void programs() {
        House house = new House();
        FilterHouse x = house.house;
        x.map(2, 2, 0, 0, 3);
        House.due("link", x.link(2, 0, 7), true);
        House.due("link", x.link(2, 2, 0), true);
        House.due("size", x.size(2), 2);
        House.due("link of the same", x.link(2, 2, 5), true);
        House.due("size", x.size(2), 2);
        House.due("link of none", x.link(2, 2, -1), true);
        House.due("link of none again", x.link(2, 2, -1), true);
        House.due("size", x.size(2), 1);
        House.due("no index", x.link(2, 3, 0) || x.link(2, -1, 0), false);
        House.due("no slot", x.link(2, 1, 8) || x.link(2, 1, -2), false);
        House.due("no map", x.link(3, 0, 0) || x.link(-1, 0, 0) || x.link(8, 0, 0), false);
        x.map(3, 3, 0, 0, 3);
        House.due("another kind", x.link(3, 0, 0), false);
        House.due("size", x.size(2), 1);
        House.due("put", put(house, 2, 0), -1);
        House.due("get", get(house, 2), -1);
        House.due("remove", remove(house, 2), -1);
        House.due("entry", x.entry(2, 0), -1);
        House.due("next", x.next(2), -1);
    }

    private static void records() {
        House house = new House();
        FilterHouse x = house.house;
        x.map(3, 3, 0, 0, 2);
        House.due("next", x.next(3), -1);
        String text = "r1 = map 3\nr2 = %d\nr3 = 0\ncall 131\nif r0 == 0 goto +5\n*(u8 *)(r0 + 0) = %d\nr1 = r0\nr2 = 0\ncall %d\ngoto +0\nexit";
        text = text.replace("goto +0\nexit", "r0 = 1\nexit");
        House.due("judge", house.judge(0, text.formatted(3, 9, 132).replace("goto +5", "goto +4")), 0);
        House.due("judge", house.judge(1, text.formatted(64, 8, 132).replace("goto +5", "goto +4")), 0);
        House.due("judge", house.judge(2, text.formatted(5, 7, 133).replace("goto +5", "goto +4")), 0);
        House.due("size", x.size(3), 0);
        x.run(2, 0);
        House.due("thrown away", x.size(3), 0);
        x.run(0, 0);
        x.run(2, 1);
        x.run(1, 1);
        House.due("size", x.size(3), 2);
        int steps = x.run(0, 0);
        House.due("MOST are finished: steps", steps, 7);
        House.due("size", x.size(3), 2);
        House.due("next", x.next(3), 3);
        outIs(house, 9, 0, 0);
        House.due("size", x.size(3), 1);
        House.due("room for one", x.run(0, 0), 11);
        House.due("next", x.next(3), 64);
        House.due("its first byte", x.out(0), 8);
        House.due("its last byte", x.out(63), 0);
        House.due("next", x.next(3), 3);
        House.due("next", x.next(3), -1);
        House.due("the OUT stays", x.outs(), 3);
        House.due("size", x.size(3), 0);
        House.due("no map", x.next(4) + x.next(-1) + x.next(8), -3);
    }

    /** Values of 64 bytes in all cells of two ROWs and two TABLEs are not in one another's way. */
    private static void apart() {
        House house = new House();
        for (int m = 0; m < 8; m++) {
            House.due("map " + m, house.house.map(m, m % 2, 4, 64, 16), true);
        }
        house.tape(1, 2, 3).house.packet();
        for (int m = 0; m < 8; m++) {
            for (int i = 0; i < 16; i++) {
                House.due("put", put(house, m, 0, mixed(i, m)), 0);
            }
        }
        for (int m = 0; m < 8; m++) {
            for (int i = 0; i < 16; i++) {
                House.due("get", get(house, m, i, 0, 0, 0), 64);
                int[] all = mixed(i, m);
                boolean same = true;
                for (int k = 0; k < 64; k++) {
                    same &= house.house.out(k) == all[k + 4];
                }
                House.due("value " + i + " of map " + m, same, true);
            }
        }
        House.due("packet", house.house.packetByte(0) + house.house.packetByte(2), 4);
    }

    private static int[] mixed(int i, int m) {
        int[] all = new int[68];
        all[0] = i;
        for (int k = 0; k < 64; k++) {
            all[k + 4] = i * 31 + m * 77 + k * 3 & 255;
        }
        return all;
    }

    private static void wrongMaps() {
        House house = new House();
        FilterHouse x = house.house;
        x.map(0, 0, 4, 2, 2);
        x.map(1, 1, 2, 2, 2);
        x.map(3, 3, 0, 0, 2);
        for (int m : new int[] {-1, 2, 3, 8}) {
            House.due("put " + m, put(house, m, 0, 0, 0, 0, 0, 1, 1), -1);
            House.due("tape is used up", x.cut(1), -1);
            House.due("get " + m, get(house, m, 0, 0, 0, 0), -1);
            House.due("tape is used up", x.cut(1), -1);
            House.due("remove " + m, remove(house, m, 0, 0, 0, 0), -1);
            House.due("tape is used up", x.cut(1), -1);
            House.due("entry " + m, x.entry(m, 0), -1);
        }
        House.due("a byte too few", put(house, 0, 0, 0, 0, 0, 0, 1), -1);
        House.due("a byte too many", put(house, 0, 0, 0, 0, 0, 0, 1, 1, 1), -1);
        House.due("tape is used up", x.cut(1), -1);
        House.due("flags do not matter then", put(house, 1, 9, 0, 0, 0), -1);
        House.due("a byte too few", get(house, 0, 0, 0, 0), -1);
        House.due("a byte too many", get(house, 1, 0, 0, 0), -1);
        House.due("an empty tape", get(house, 1), -1);
        House.due("a byte too few", remove(house, 0, 0, 0, 0), -1);
        House.due("an empty tape", remove(house, 1), -1);
        House.due("size -1", x.size(-1), -1);
        House.due("size 8", x.size(8), -1);
        House.due("outs", x.outs(), 0);
    }
}
