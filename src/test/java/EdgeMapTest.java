/** Part 3, MAPS, and promises 15 to 22 at the edges that the document names, sentence by sentence. */
public final class EdgeMapTest {
    public static void main(String[] args) {
        telling();
        rowsAtFirst();
        rowIndices();
        updates();
        keysAndValues();
        entries();
        wrongTapes();
        links();
        cellsInRuns();
        cellsBehindTail();
        heldCells();
        recordsMost();
        recordsAgain();
        recordsInOrder();
        outKept();
        House.end();
    }

    private static byte[] bytes(int... some) {
        byte[] all = new byte[some.length];
        for (int i = 0; i < some.length; i++) {
            all[i] = (byte) some[i];
        }
        return all;
    }

    private static byte[] filled(int n, int what) {
        byte[] all = new byte[n];
        java.util.Arrays.fill(all, (byte) what);
        return all;
    }

    private static byte[] joined(byte[] a, byte[] b) {
        byte[] all = java.util.Arrays.copyOf(a, a.length + b.length);
        System.arraycopy(b, 0, all, a.length, b.length);
        return all;
    }

    private static byte[] index(int i) {
        return bytes(i, i >> 8, i >> 16, i >> 24);
    }

    private static void outIs(House h, byte[] due) {
        House.due("outs", h.house.outs(), due.length);
        for (int i = 0; i < due.length; i++) {
            House.due("out " + i, h.house.out(i), due[i] & 255);
        }
        House.due("out behind", h.house.out(due.length), -1);
    }

    /** "False: no such map, it is told already, not such." What is refused changes nothing. */
    private static void telling() {
        FilterHouse x = new FilterHouse();
        for (int m : new int[] {-1, 8, Integer.MIN_VALUE, Integer.MAX_VALUE}) {
            House.due("map " + m, x.map(m, 1, 1, 1, 1), false);
            House.due("size " + m, x.size(m), -1);
        }
        for (int m = 0; m < 8; m++) {
            House.due("size of a map that was not told", x.size(m), -1);
            for (int[] no : new int[][] {{-1, 4, 4, 4}, {4, 4, 4, 4}, {4, 0, 0, 4}, {Integer.MIN_VALUE, 0, 0, 1}}) {
                House.due("kind " + no[0], x.map(m, no[0], no[1], no[2], no[3]), false);
            }
            for (int kind = 0; kind < 4; kind++) {
                boolean keyed = kind < 2;
                int key = keyed ? 4 : 0;
                for (int most : new int[] {0, -1, 17, Integer.MIN_VALUE, Integer.MAX_VALUE}) {
                    House.due("MOST " + most, x.map(m, kind, key, key, most), false);
                }
                int[] keys = kind == 0 ? new int[] {0, 1, 3, 5, 16, -4} : kind == 1 ? new int[] {0, -1, 17, Integer.MAX_VALUE} : new int[] {1, 4, -1};
                for (int k : keys) {
                    House.due("key " + k + " of kind " + kind, x.map(m, kind, k, key, 4), false);
                }
                for (int v : keyed ? new int[] {0, -1, 65, Integer.MIN_VALUE} : new int[] {1, 4, -1, 64}) {
                    House.due("value " + v + " of kind " + kind, x.map(m, kind, key, v, 4), false);
                }
            }
            House.due("what was refused was not told", x.size(m), -1);
        }
        // what was refused can be told; what is told cannot be told again
        int[][] good = {{0, 4, 1, 1}, {0, 4, 64, 16}, {1, 1, 1, 1}, {1, 16, 64, 16}, {2, 0, 0, 1}, {2, 0, 0, 16}, {3, 0, 0, 1}, {3, 0, 0, 16}};
        for (int m = 0; m < 8; m++) {
            House.due("map " + m, x.map(m, good[m][0], good[m][1], good[m][2], good[m][3]), true);
        }
        for (int m = 0; m < 8; m++) {
            for (int[] other : good) {
                House.due("map " + m + " told twice", x.map(m, other[0], other[1], other[2], other[3]), false);
            }
            House.due("size of map " + m, x.size(m), m == 0 ? 1 : m == 1 ? 16 : 0);
        }
    }

    /** "those from 0 on below MOST are there always, their values 0s at first". */
    private static void rowsAtFirst() {
        for (int most = 1; most <= 16; most++) {
            for (int size : new int[] {1, 64}) {
                House h = new House();
                h.house.map(7, 0, 4, size, most);
                House.due("size", h.house.size(7), most);
                for (int i = 0; i < most; i++) {
                    House.due("get " + i, h.tape(index(i)).house.get(7), size);
                    outIs(h, new byte[size]);
                }
                House.due("get of MOST", h.tape(index(most)).house.get(7), -2);
                House.due("get of -1", h.tape(index(-1)).house.get(7), -2);
                House.due("remove of the first", h.tape(index(0)).house.remove(7), -22);
                House.due("remove of MOST", h.tape(index(most)).house.remove(7), -22);
                House.due("size", h.house.size(7), most);
            }
        }
    }

    /** "keys are 4 bytes, a number with sign, lowest byte first". */
    private static void rowIndices() {
        House h = new House();
        h.house.map(0, 0, 4, 1, 16);
        for (int i : new int[] {16, 17, 255, 256, 0x10000, 0x1000000, -1, -16, Integer.MIN_VALUE, Integer.MAX_VALUE, 0x0F000000}) {
            House.due("get " + i, h.tape(index(i)).house.get(0), -2);
            House.due("put " + i, h.tape(joined(index(i), bytes(7))).house.put(0, 0), -7);
            House.due("put " + i + " with 1", h.tape(joined(index(i), bytes(7))).house.put(0, 1), -7);
            House.due("put " + i + " with 2", h.tape(joined(index(i), bytes(7))).house.put(0, 2), -7);
            House.due("put " + i + " with 3", h.tape(joined(index(i), bytes(7))).house.put(0, 3), -22);
        }
        for (int i = 0; i < 16; i++) {
            House.due("put " + i, h.tape(joined(index(i), bytes(200 + i))).house.put(0, i % 2 * 2), 0);
        }
        for (int i = 0; i < 16; i++) {
            h.tape(index(i)).house.get(0);
            House.due("value " + i, h.house.out(0), 200 + i);
        }
    }

    /** "TO UPDATE with FLAGS .. In this order": each flag, there or not, with room or without. */
    private static void updates() {
        for (int flags : new int[] {Integer.MIN_VALUE, -1, 0, 1, 2, 3, 4, 256, Integer.MAX_VALUE}) {
            boolean known = flags >= 0 && flags <= 2;
            for (int full = 0; full < 2; full++) {
                House h = new House();
                h.house.map(3, 1, 1, 1, full == 1 ? 1 : 2);
                h.tape(5, 50).house.put(3, 0);
                House.due("of what is there, flags " + flags, h.tape(5, 51).house.put(3, flags), !known ? -22 : flags == 1 ? -17 : 0);
                h.tape(5).house.get(3);
                House.due("its value", h.house.out(0), known && flags != 1 ? 51 : 50);
                int due = !known ? -22 : flags == 2 ? -2 : full == 1 ? -7 : 0;
                House.due("of what is not there, flags " + flags, h.tape(6, 60).house.put(3, flags), due);
                House.due("size", h.house.size(3), due == 0 ? 2 : 1);
                House.due("get", h.tape(6).house.get(3), due == 0 ? 1 : -2);
                House r = new House();
                r.house.map(3, 0, 4, 1, 2);
                House.due("of a ROW, flags " + flags, r.tape(1, 0, 0, 0, 9).house.put(3, flags), !known ? -22 : flags == 1 ? -17 : 0);
                House.due("of a ROW, beyond, flags " + flags, r.tape(2, 0, 0, 0, 9).house.put(3, flags), !known ? -22 : -7);
                r.tape(1, 0, 0, 0).house.get(3);
                House.due("its value", r.house.out(0), known && flags != 1 ? 9 : 0);
            }
        }
    }

    /** "keys of a TABLE have 1 .. 16 bytes, values 1 .. 64": at their ends, keys that differ in one byte. */
    private static void keysAndValues() {
        for (int key : new int[] {1, 2, 15, 16}) {
            for (int value : new int[] {1, 63, 64}) {
                House h = new House();
                House.due("map", h.house.map(0, 1, key, value, 16), true);
                for (int k = 0; k < key; k++) {
                    byte[] one = filled(key, 7);
                    one[k] = 8;
                    House.due("put", h.tape(joined(one, filled(value, 100 + k))).house.put(0, 1), 0);
                    House.due("put again", h.tape(joined(one, filled(value, 0))).house.put(0, 1), -17);
                }
                House.due("size", h.house.size(0), key);
                House.due("get of none of them", h.tape(filled(key, 7)).house.get(0), -2);
                for (int k = 0; k < key; k++) {
                    byte[] one = filled(key, 7);
                    one[k] = 8;
                    House.due("get", h.tape(one).house.get(0), value);
                    outIs(h, filled(value, 100 + k));
                    House.due("entry " + k, h.house.entry(0, k), key + value);
                    outIs(h, joined(one, filled(value, 100 + k)));
                }
                byte[] first = filled(key, 7);
                first[0] = 8;
                House.due("remove", h.tape(first).house.remove(0), 0);
                House.due("remove again", h.tape(first).house.remove(0), -2);
                House.due("get", h.tape(first).house.get(0), -2);
            }
        }
    }

    /** "an entry is a key and a cell with its value, in the order in which they came"; entry() at its ends. */
    private static void entries() {
        House h = new House();
        FilterHouse x = h.house;
        x.map(0, 1, 1, 1, 16);
        x.map(1, 0, 4, 1, 4);
        x.map(2, 2, 0, 0, 4);
        x.map(3, 3, 0, 0, 4);
        House.due("entry of an empty TABLE", x.entry(0, 0), -1);
        for (int i = 0; i < 16; i++) {
            House.due("put", h.tape(i, i + 100).house.put(0, 0), 0);
            House.due("entry behind the last", x.entry(0, i + 1), -1);
            House.due("the last entry", x.entry(0, i), 2);
            outIs(h, bytes(i, i + 100));
        }
        House.due("the 17th", h.tape(99, 1).house.put(0, 0), -7);
        for (int i : new int[] {-1, 16, 17, Integer.MIN_VALUE, Integer.MAX_VALUE}) {
            House.due("entry " + i, x.entry(0, i), -1);
        }
        for (int m : new int[] {-1, 1, 2, 3, 4, 8}) {
            House.due("entry of map " + m, x.entry(m, 0), -1);
        }
        outIs(h, bytes(15, 115));
        // the last, the first, one between them
        for (int gone : new int[] {15, 0, 7}) {
            House.due("remove", h.tape(gone).house.remove(0), 0);
        }
        House.due("put", h.tape(0, 1).house.put(0, 0), 0);
        int[] due = {1, 2, 3, 4, 5, 6, 8, 9, 10, 11, 12, 13, 14, 0};
        House.due("size", x.size(0), due.length);
        for (int i = 0; i < due.length; i++) {
            x.entry(0, i);
            House.due("key " + i, x.out(0), due[i]);
            House.due("value " + i, x.out(1), due[i] == 0 ? 1 : due[i] + 100);
        }
    }

    /** "NONE: no such map, it is no ROW or TABLE, the tape has not as many bytes"; the tape is used up. */
    private static void wrongTapes() {
        House h = new House();
        FilterHouse x = h.house;
        x.map(0, 0, 4, 3, 2);
        x.map(1, 1, 4, 3, 2);
        x.map(2, 2, 0, 0, 2);
        x.map(3, 3, 0, 0, 2);
        for (int m : new int[] {-1, 2, 3, 4, 7, 8}) {
            for (int n : new int[] {0, 4, 7}) {
                House.due("put to map " + m, h.tape(new byte[n]).house.put(m, 0), -1);
                House.due("used up", x.cut(n == 0 ? 1 : n), -1);
                House.due("get of map " + m, h.tape(new byte[n]).house.get(m), -1);
                House.due("used up", x.cut(n == 0 ? 1 : n), -1);
                House.due("remove of map " + m, h.tape(new byte[n]).house.remove(m), -1);
                House.due("used up", x.cut(n == 0 ? 1 : n), -1);
            }
        }
        for (int m = 0; m < 2; m++) {
            for (int n : new int[] {0, 1, 3, 4, 5, 6, 8, 20}) {
                House.due("put of " + n + " bytes", h.tape(new byte[n]).house.put(m, 0), -1);
                House.due("put of " + n + " bytes with other flags", h.tape(new byte[n]).house.put(m, 9), -1);
                House.due("size", x.size(m), m == 0 ? 2 : 0);
            }
            for (int n : new int[] {0, 1, 3, 5, 7, 20}) {
                House.due("get of " + n + " bytes", h.tape(new byte[n]).house.get(m), -1);
                House.due("remove of " + n + " bytes", h.tape(new byte[n]).house.remove(m), -1);
            }
        }
        House.due("put", h.tape(new byte[7]).house.put(1, 0), 0);
        House.due("used up", x.cut(1), -1);
        House.due("get", h.tape(new byte[4]).house.get(1), 3);
        House.due("used up", x.cut(1), -1);
        House.due("remove", h.tape(new byte[4]).house.remove(1), 0);
        House.due("used up", x.cut(1), -1);
    }

    /** "False: no such map, index, slot." "PROGRAMS indices that have a slot". */
    private static void links() {
        House h = new House();
        FilterHouse x = h.house;
        x.map(0, 2, 0, 0, 16);
        x.map(1, 2, 0, 0, 1);
        x.map(2, 1, 1, 1, 4);
        for (int i : new int[] {-1, 16, Integer.MIN_VALUE, Integer.MAX_VALUE}) {
            House.due("index " + i, x.link(0, i, 0), false);
        }
        House.due("index of MOST", x.link(1, 1, 0), false);
        for (int slot : new int[] {-2, 8, Integer.MIN_VALUE, Integer.MAX_VALUE}) {
            House.due("slot " + slot, x.link(0, 0, slot), false);
        }
        for (int m : new int[] {-1, 2, 3, 8}) {
            House.due("map " + m, x.link(m, 0, 0), false);
        }
        House.due("size behind what was refused", x.size(0), 0);
        House.due("none where none is", x.link(0, 3, -1), true);
        House.due("size", x.size(0), 0);
        for (int i = 0; i < 16; i++) {
            House.due("link " + i, x.link(0, i, i % 8), true);
            House.due("size", x.size(0), i + 1);
        }
        House.due("another slot", x.link(0, 15, 0), true);
        House.due("size", x.size(0), 16);
        House.due("refused", x.link(0, 15, 8), false);
        House.due("size", x.size(0), 16);
        for (int i = 0; i < 16; i++) {
            House.due("none", x.link(0, i, -1), true);
            House.due("none again", x.link(0, i, -1), true);
            House.due("size", x.size(0), 15 - i);
        }
    }

    private static final String RESULT = "*(u64 *)(r10 - 24) = r0\nr1 = r10\nr1 += -24\nr2 = 8\ncall 6\n";

    private static String put(int key, int value, int flags) {
        return "*(u32 *)(r10 - 8) = " + key + "\n*(u64 *)(r10 - 16) = " + value + "\nr2 = r10\nr2 += -8\nr3 = r10\nr3 += -16\nr1 = map 1\nr4 = " + flags + "\ncall 2\n"
                + RESULT;
    }

    private static String remove(int key) {
        return "*(u32 *)(r10 - 8) = " + key + "\nr2 = r10\nr2 += -8\nr1 = map 1\ncall 3\n" + RESULT;
    }

    /** So many entries come and go. */
    private static String churn(int n) {
        return "r6 = 0\nL: *(u32 *)(r10 - 8) = 100\n*(u64 *)(r10 - 16) = r6\nr2 = r10\nr2 += -8\nr3 = r10\nr3 += -16\nr1 = map 1\nr4 = 0\ncall 2\n"
                + "r2 = r10\nr2 += -8\nr1 = map 1\ncall 3\nr6 += 1\nif r6 < " + n + " goto L\n";
    }

    private static void traced(House h, int slot, int way, String text, long... due) {
        House.due("judge of " + text, h.judge(slot, text), 0);
        h.house.tear();
        House.due("run", h.house.run(slot, way) > 0, true);
        House.due("traces", h.house.traces(), 8 * due.length);
        for (int i = 0; i < due.length; i++) {
            long x = 0;
            for (int k = 7; k >= 0; k--) {
                x = x << 8 | h.house.trace(8 * i + k);
            }
            House.due("answer " + i + " by way " + way, x, due[i]);
        }
    }

    /** "A TABLE has 32 CELLS"; "A cell whose entry is removed is free again when the run is over (outside of runs at once)". */
    private static void cellsInRuns() {
        for (int way = 0; way < 2; way++) {
            House h = new House();
            h.house.map(1, 1, 4, 8, 2);
            // 31 cells are gone: one is free
            traced(h, 0, way, churn(31) + put(1, 1, 0) + put(2, 2, 0) + put(1, 3, 0) + put(1, 3, 1) + put(1, 4, 2) + put(2, 2, 2) + put(2, 2, 1) + put(2, 2, 3)
                    + "exit\n", 0, -12, 0, -17, 0, -2, -12, -22);
            House.due("size", h.house.size(1), 1);
            // they are free when the run is over
            House.due("put outside", h.tape(2, 0, 0, 0, 2, 0, 0, 0, 0, 0, 0, 0).house.put(1, 1), 0);
            House.due("size", h.house.size(1), 2);
            House.due("remove outside", h.tape(1, 0, 0, 0).house.remove(1), 0);
            House.due("remove outside", h.tape(2, 0, 0, 0).house.remove(1), 0);
            // a cell whose entry is removed is not free in that run
            traced(h, 0, way, churn(31) + put(1, 1, 0) + remove(1) + remove(1) + put(1, 1, 0) + put(1, 1, 2) + "exit\n", 0, 0, -2, -12, -2);
            House.due("size", h.house.size(1), 0);
            traced(h, 0, way, churn(32) + put(1, 1, 0) + "exit\n", -12);
            traced(h, 0, way, churn(33) + put(1, 1, 0) + "exit\n", -12);
            // -7, when there are MOST, ahead of -12
            traced(h, 0, way, churn(30) + put(1, 1, 0) + put(2, 2, 0) + put(3, 3, 0) + put(3, 3, 1) + put(3, 3, 2) + remove(2) + put(3, 3, 0) + "exit\n", 0, 0, -7, -7, -2, 0, -12);
            House.due("size", h.house.size(1), 1);
            // cells of entries that are there are not free
            traced(h, 0, way, churn(30) + put(2, 2, 0) + put(3, 3, 0) + "exit\n", 0, -7);
            traced(h, 0, way, remove(1) + remove(2) + churn(30) + put(2, 2, 0) + "exit\n", 0, 0, -12);
            House.due("size", h.house.size(1), 0);
            // 16 entries, and 16 that came and went
            House full = new House();
            full.house.map(1, 1, 4, 8, 16);
            for (int i = 0; i < 15; i++) {
                House.due("put", full.tape(joined(index(i), filled(8, i))).house.put(1, 1), 0);
            }
            traced(full, 0, way, churn(16) + put(99, 1, 0) + put(98, 1, 0) + remove(99) + put(97, 1, 0) + "exit\n", 0, -7, 0, -12);
            traced(full, 0, way, churn(15) + put(99, 1, 0) + remove(99) + put(97, 1, 0) + "exit\n", 0, 0, 0);
            for (int i = 0; i < 15; i++) {
                full.tape(index(i)).house.get(1);
                outIs(full, filled(8, i));
            }
        }
        // outside of runs at once
        House h = new House();
        h.house.map(1, 1, 1, 1, 1);
        for (int i = 0; i < 40; i++) {
            House.due("put", h.tape(i, i).house.put(1, 1), 0);
            House.due("another", h.tape(200, i).house.put(1, 1), -7);
            House.due("remove", h.tape(i).house.remove(1), 0);
        }
    }

    /** With TAIL it is one run. */
    private static void cellsBehindTail() {
        for (int way = 0; way < 2; way++) {
            House h = new House();
            h.house.map(1, 1, 4, 8, 2);
            h.house.map(2, 2, 0, 0, 1);
            h.house.link(2, 0, 3);
            House.due("judge", h.judge(3, put(1, 1, 0) + "exit\n"), 0);
            String tail = "r1 = r9\nr2 = map 2\nr3 = 0\ncall 12\nexit\n";
            traced(h, 0, way, "r9 = r1\n" + churn(32) + tail, -12);
            House.due("tails", h.house.tails(), 1);
            traced(h, 0, way, "r9 = r1\n" + churn(31) + tail, 0);
            traced(h, 0, way, put(2, 2, 0) + "exit\n", 0);
        }
    }

    /** "what a program holds of it stays till then". */
    private static void heldCells() {
        String find = "r2 = r10\nr2 += -8\nr1 = map 1\ncall 1\n";
        for (int way = 0; way < 2; way++) {
            House h = new House();
            h.house.map(1, 1, 4, 8, 1);
            h.tape(joined(index(7), filled(8, 5))).house.put(1, 0);
            // r7 holds the cell of 7; 7 is removed, comes again with another value, is removed, and others come and go
            String text = "*(u32 *)(r10 - 8) = 7\n" + find + "if r0 != 0 goto +1\nexit\nr7 = r0\n" + remove(7) + put(7, 9, 1) + "r0 = *(u64 *)(r7 + 0)\n" + RESULT
                    + "*(u64 *)(r7 + 0) = 66\n" + "*(u32 *)(r10 - 8) = 7\n" + find + "if r0 != 0 goto +1\nexit\nr0 = *(u64 *)(r0 + 0)\n" + RESULT + remove(7) + churn(40)
                    + "r0 = *(u64 *)(r7 + 0)\n" + RESULT + "exit\n";
            traced(h, 0, way, text, 0, 0, 0x0505050505050505L, 9, 0, 66);
            House.due("size", h.house.size(1), 0);
        }
    }

    private static String record(int m, int n, String then) {
        return "r1 = map " + m + "\nr2 = " + n + "\nr3 = 0\ncall 131\nif r0 == 0 goto N\n" + then + "r0 = 1\nexit\nN: r0 = 2\nexit\n";
    }

    private static String end(int helper) {
        return "r1 = r0\nr2 = 0\ncall " + helper + "\n";
    }

    private static void result(House h, int slot, int way, long due) {
        House.due("run", h.house.run(slot, way) > 0, true);
        House.due("result", h.house.result(), due);
    }

    /** "or 0, when those finished and not taken, and those that are held, are MOST." */
    private static void recordsMost() {
        for (int most : new int[] {1, 2, 15, 16}) {
            for (int way = 0; way < 2; way++) {
                House h = new House();
                h.house.map(3, 3, 0, 0, most);
                h.house.map(4, 3, 0, 0, 1);
                House.due("judge", h.judge(0, record(3, 64, end(132))), 0);
                House.due("judge", h.judge(1, record(3, 1, end(133))), 0);
                House.due("next of none", h.house.next(3), -1);
                for (int i = 0; i < most; i++) {
                    House.due("size", h.house.size(3), i);
                    result(h, 0, way, 1);
                }
                result(h, 0, way, 2);
                result(h, 1, way, 2);
                House.due("size", h.house.size(3), most);
                House.due("of another map", h.house.size(4), 0);
                House.due("next", h.house.next(3), 64);
                result(h, 1, way, 1);
                result(h, 0, way, 1);
                result(h, 0, way, 2);
                for (int i = 0; i < most; i++) {
                    House.due("next", h.house.next(3), 64);
                }
                House.due("next", h.house.next(3), -1);
                House.due("size", h.house.size(3), 0);
            }
        }
        // held ones alone: in one run with MOST 2 the third one is 0
        String two = "r6 = 0\n" + "r1 = map 3\nr2 = 8\nr3 = 0\ncall 131\nif r0 == 0 goto A\nr7 = r0\nr1 = map 3\nr2 = 8\nr3 = 0\ncall 131\nif r0 == 0 goto B\nr8 = r0\n"
                + "r1 = map 3\nr2 = 8\nr3 = 0\ncall 131\nif r0 == 0 goto C\nr1 = r0\nr2 = 0\ncall 133\nr6 += 100\n"
                + "C: r6 += 1\nr1 = r8\nr2 = 0\ncall 133\nB: r6 += 1\nr1 = r7\nr2 = 0\ncall 133\nA: r0 = r6\nexit\n";
        for (int most = 1; most <= 3; most++) {
            House h = new House();
            h.house.map(3, 3, 0, 0, most);
            House.due("judge", h.judge(0, two), 0);
            for (int turn = 0; turn < 20; turn++) {
                result(h, 0, turn % 2, most == 3 ? 102 : most);
            }
            House.due("size", h.house.size(3), 0);
        }
    }

    /** "133: it is thrown away": there is room for another at once; "a new RECORD of n bytes, all 0". */
    private static void recordsAgain() {
        String turn = "r6 = 0\nL: r1 = map 3\nr2 = 64\nr3 = 0\ncall 131\nif r0 != 0 goto +2\nr0 = r6\nexit\n"
                + "r7 = *(u64 *)(r0 + 0)\nr8 = *(u64 *)(r0 + 56)\nr7 |= r8\nr8 = *(u64 *)(r0 + 24)\nr7 |= r8\nif r7 == 0 goto +5\nr1 = r0\nr2 = 0\ncall 133\nr0 = 999\nexit\n"
                + "*(u64 *)(r0 + 0) = -1\n*(u64 *)(r0 + 24) = -1\n*(u64 *)(r0 + 56) = -1\nr1 = r0\nr2 = 0\ncall 133\nr6 += 1\nif r6 < 50 goto L\nr0 = r6\nexit\n";
        for (int way = 0; way < 2; way++) {
            House h = new House();
            h.house.map(3, 3, 0, 0, 1);
            House.due("judge", h.judge(0, turn), 0);
            result(h, 0, way, 50);
            result(h, 0, way, 50);
            House.due("size", h.house.size(3), 0);
            // finished, taken, and come again
            House.due("judge", h.judge(1, record(3, 64, "r6 = *(u64 *)(r0 + 0)\nr7 = *(u64 *)(r0 + 56)\n*(u64 *)(r0 + 0) = -1\n*(u64 *)(r0 + 56) = -1\nr1 = r0\nr2 = 0\ncall 132\n"
                    + "r0 = r6\nr0 |= r7\nexit\n")), 0);
            for (int i = 0; i < 40; i++) {
                result(h, 1, way, 0);
                House.due("size", h.house.size(3), 1);
                result(h, 1, way, 2);
                House.due("next", h.house.next(3), 64);
                House.due("its bytes", h.house.out(0) + h.house.out(8) + h.house.out(63), 255 + 0 + 255);
            }
        }
    }

    /** "132: it is FINISHED, behind those that are"; next(): the eldest one; each of its own size. */
    private static void recordsInOrder() {
        House h = new House();
        FilterHouse x = h.house;
        x.map(3, 3, 0, 0, 16);
        x.map(7, 3, 0, 0, 16);
        for (int slot = 0; slot < 4; slot++) {
            int n = slot == 3 ? 64 : slot + 1;
            House.due("judge", h.judge(slot, record(slot % 2 == 0 ? 3 : 7, n, "*(u8 *)(r0 + " + (n - 1) + ") = " + (40 + slot) + "\n" + end(132))), 0);
        }
        int[] order = {0, 2, 2, 1, 0, 3, 2, 1, 3, 0, 0};
        for (int i = 0; i < order.length; i++) {
            result(h, order[i], i % 2, 1);
        }
        House.due("size", x.size(3), 7);
        House.due("size", x.size(7), 4);
        for (int m = 3; m <= 7; m += 4) {
            for (int slot : order) {
                if ((slot % 2 == 0 ? 3 : 7) != m) {
                    continue;
                }
                int n = slot == 3 ? 64 : slot + 1;
                byte[] due = new byte[n];
                due[n - 1] = (byte) (40 + slot);
                House.due("next", x.next(m), n);
                outIs(h, due);
                if (slot == 1) {
                    // one that comes between is behind the others
                    result(h, slot, 0, 1);
                    House.due("size stays", x.size(m) > 0, true);
                }
            }
        }
        House.due("those that came between", x.next(7) + x.next(7), 4);
        House.due("none left", x.next(3) + x.next(7), -2);
        // the one that was thrown away between two leaves no gap: the later of two is finished first
        String turned = "r1 = map 3\nr2 = 8\nr3 = 0\ncall 131\nif r0 == 0 goto A\nr7 = r0\nr1 = map 3\nr2 = 16\nr3 = 0\ncall 131\nif r0 == 0 goto B\n" + end(132)
                + "B: r1 = r7\nr2 = 0\ncall 132\nA: r0 = 0\nexit\n";
        House.due("judge", h.judge(4, turned), 0);
        result(h, 4, 1, 0);
        House.due("finished first", x.next(3), 16);
        House.due("finished last", x.next(3), 8);
    }

    /** "What is refused changes nothing": the OUT stays. */
    private static void outKept() {
        House h = new House();
        FilterHouse x = h.house;
        x.map(0, 0, 4, 3, 2);
        x.map(1, 1, 1, 2, 2);
        x.map(3, 3, 0, 0, 2);
        h.tape(1, 0, 0, 0, 7, 8, 9).house.put(0, 0);
        h.tape(5, 55, 66).house.put(1, 0);
        House.due("put leaves the OUT", x.outs(), 0);
        House.due("get", h.tape(1, 0, 0, 0).house.get(0), 3);
        byte[] due = bytes(7, 8, 9);
        House.due("get of none", h.tape(2, 0, 0, 0).house.get(0), -2);
        outIs(h, due);
        House.due("get of too few bytes", h.tape(2, 0).house.get(0), -1);
        outIs(h, due);
        House.due("remove", h.tape(9).house.remove(1), -2);
        outIs(h, due);
        House.due("entry", x.entry(1, 1), -1);
        outIs(h, due);
        House.due("next", x.next(3), -1);
        outIs(h, due);
        House.due("print", x.print(0), -1);
        outIs(h, due);
        House.due("entry", x.entry(1, 0), 3);
        outIs(h, bytes(5, 55, 66));
        House.due("get takes its place", h.tape(0, 0, 0, 0).house.get(0), 3);
        outIs(h, bytes(0, 0, 0));
        House.due("get", h.tape(5).house.get(1), 2);
        outIs(h, bytes(55, 66));
    }
}
