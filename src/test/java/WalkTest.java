/** Part 6 (and 5): what is said of programs made by dice is what Walk, another writing of the judge, says of them. */
public final class WalkTest {
    private static final int[] FAULTS = new int[16];

    public static void main(String[] args) {
        int from = args.length > 1 ? Integer.parseInt(args[1]) : 1;
        int seeds = args.length > 0 ? Integer.parseInt(args[0]) : 3000;
        House house = null;
        for (int seed = from; seed < from + seeds; seed++) {
            // each object judges some programs, one behind the other
            if (house == null || seed % 8 == 0) {
                house = new House();
                tellMaps(house.house);
            }
            judged(house, seed);
        }
        StringBuilder all = new StringBuilder();
        for (int i = 0; i < 16; i++) {
            all.append(i).append(':').append(FAULTS[i]).append(' ');
        }
        System.out.println("faults " + all);
        for (int i = 0; i < 16 && seeds >= 3000; i++) {
            House.due("fault " + i + " comes", FAULTS[i] > 0, true);
        }
        House.end();
    }

    static void tellMaps(FilterHouse x) {
        for (int m = 0; m < Maker.MAPS.length; m++) {
            int[] map = Maker.MAPS[m];
            x.map(m, map[0], map[1], map[2], map[3]);
        }
    }

    static Walk.Shape[] shapes() {
        Walk.Shape[] shapes = new Walk.Shape[8];
        for (int m = 0; m < 8; m++) {
            boolean told = m < Maker.MAPS.length;
            shapes[m] = told ? new Walk.Shape(Maker.MAPS[m][0], Maker.MAPS[m][1], Maker.MAPS[m][2]) : new Walk.Shape(-1, 0, 0);
        }
        return shapes;
    }

    private static void judged(House house, int seed) {
        long[] code = Maker.program(seed);
        int slot = seed & 7;
        FilterHouse x = house.house;
        House.due("load of seed " + seed, house.tapeWords(code).house.load(slot), code.length);
        Walk walk = new Walk(code, shapes());
        FAULTS[walk.fault]++;
        boolean same = x.judge(slot) == walk.fault;
        House.due("judge of seed " + seed, x.judge(slot), walk.fault);
        for (int what = 0; what <= 5; what++) {
            same &= x.told(what) == walk.told[what];
            House.due("told(" + what + ") of seed " + seed, x.told(what), walk.told[what]);
        }
        for (int i = 0; i < code.length; i++) {
            for (int r = 0; r < 10; r++) {
                for (int what = 0; what <= 9; what++) {
                    long is = x.known(i, r, what);
                    House.due("known(" + i + ", " + r + ", " + what + ") of seed " + seed, is, walk.known(i, r, what));
                    same &= is == walk.known(i, r, what);
                }
            }
        }
        if (!same) {
            System.out.println(house.printed(slot));
            House.end();
        }
    }
}
