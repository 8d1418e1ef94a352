import java.util.List;

/**
 * Parts 3 and 4: runs of programs made by dice, each by both ways on an object of its own, are what Going, another
 * writing of them, does; no run has more steps than the judge told, and none does what no taken program may do.
 */
public final class GoingTest {
    private static int runs = 0;
    private static int moved = 0;
    private static Dice dice;
    private static Going model;
    /** Of each slot the most steps that the judge told. */
    private static final int[] LONGEST = new int[8];

    public static void main(String[] args) {
        int from = args.length > 1 ? Integer.parseInt(args[1]) : 1;
        int seeds = args.length > 0 ? Integer.parseInt(args[0]) : 400;
        int program = from * 1000;
        for (int seed = from; seed < from + seeds; seed++) {
            program = session(seed, program);
        }
        House.due("many runs", runs > 20 * seeds, true);
        House.due("some go on with others", moved > seeds / 20, true);
        System.out.println(runs + " runs, " + moved + " go on with other programs");
        House.end();
    }

    private static int session(int seed, int firstProgram) {
        dice = new Dice(seed);
        model = new Going();
        House[] both = {new House(), new House()};
        for (House h : both) {
            WalkTest.tellMaps(h.house);
        }
        for (int m = 0; m < Maker.MAPS.length; m++) {
            int[] map = Maker.MAPS[m];
            model.tell(m, map[0], map[1], map[2], map[3]);
        }
        int program = firstProgram;
        for (int slot = 0; slot < 8; slot++) {
            program = fill(both, slot, program);
        }
        String name = "seed " + seed;
        for (int k = 0; k < 40; k++) {
            change(both, name);
            int slot = dice.below(8);
            run(both, slot, name + " run " + k + " of slot " + slot);
        }
        look(both, name);
        return program;
    }

    /** A slot gets the next program that is taken. */
    private static int fill(House[] both, int slot, int from) {
        int program = from;
        boolean taken = false;
        for (int turn = 0; turn < 200 && !taken; turn++) {
            long[] code = Maker.program(program);
            program++;
            for (House h : both) {
                h.tapeWords(code).house.load(slot);
                taken = h.house.judge(slot) == 0;
            }
            taken &= both[0].house.told(3) > 12 || dice.odds(1, 6);
            model.code[slot] = code;
            model.taken[slot] = taken;
            LONGEST[slot] = both[0].house.told(3);
        }
        return program;
    }

    private static byte[] bytes(int n, int most) {
        byte[] b = new byte[n];
        for (int i = 0; i < n; i++) {
            b[i] = (byte) dice.below(most);
        }
        return b;
    }

    /** What programs find is changed by calls. */
    private static void change(House[] both, String name) {
        switch (dice.below(5)) {
            case 0:
            case 1:
                byte[] packet = bytes(dice.of(0, 1, 5, 14, 20, 64, 100, 256, dice.below(257)), 256);
                model.packet = packet.clone();
                for (House h : both) {
                    House.due("packet of " + name, h.tape(packet).house.packet(), packet.length);
                }
                break;
            case 2:
                model.mark = (int) dice.number();
                model.source = (int) dice.number();
                model.chance = dice.odds(1, 2) ? dice.bits() : model.chance;
                for (House h : both) {
                    h.house.given(model.mark, model.source);
                    h.house.chances(model.chance);
                }
                break;
            case 3:
                int index = dice.below(5);
                int to = dice.below(9) - 1;
                model.link(2, index, to);
                for (House h : both) {
                    House.due("link of " + name, h.house.link(2, index, to), true);
                }
                break;
            default:
                put(both, name);
                break;
        }
    }

    private static void put(House[] both, String name) {
        int m = dice.of(0, 1, 4, 5);
        byte[] key = bytes(Maker.MAPS[m][1], 1);
        key[0] = (byte) dice.below(6);
        byte[] value = bytes(Maker.MAPS[m][2], 256);
        byte[] tape = java.util.Arrays.copyOf(key, key.length + value.length);
        System.arraycopy(value, 0, tape, key.length, value.length);
        int flags = dice.below(4);
        int answer = model.put(m, key, value, flags);
        for (House h : both) {
            House.due("put of " + name, h.tape(tape).house.put(m, flags), answer);
        }
    }

    private static void run(House[] both, int slot, String name) {
        int steps = -1;
        if (model.taken[slot]) {
            try {
                steps = model.run(slot);
            } catch (Going.Wrong e) {
                House.due(name + " does what none may do: " + e.getMessage(), 1, 0);
                return;
            }
            runs++;
            moved += model.tails > 0 ? 1 : 0;
            House.due(name + " has no more steps than was told", model.tails > 0 || steps <= LONGEST[slot], true);
        }
        for (int way = 0; way < 2; way++) {
            FilterHouse x = both[way].house;
            String what = name + " way " + way;
            House.due(what, x.run(slot, way), steps);
            House.due("result of " + what, x.result(), model.result);
            House.due("tails of " + what, x.tails(), model.tails);
            House.due("steps of " + what, x.steps(), model.steps);
            House.due("mark of " + what, x.mark(), model.mark);
            House.due("length of " + what, x.length(), model.packet.length);
            House.due("traces of " + what, x.traces(), model.trace.size());
        }
        if (dice.odds(1, 10)) {
            look(both, name);
        }
    }

    /** All that lasts: packet, TRACE, maps. */
    private static void look(House[] both, String name) {
        for (House h : both) {
            FilterHouse x = h.house;
            for (int i = 0; i < model.packet.length; i++) {
                House.due("packetByte " + i + " of " + name, x.packetByte(i), model.packet[i] & 255);
            }
            for (int i = 0; i < model.trace.size(); i++) {
                House.due("trace " + i + " of " + name, x.trace(i), model.trace.get(i) & 255);
            }
            House.due("tear of " + name, x.tear(), model.trace.size());
            for (int m = 0; m < Maker.MAPS.length; m++) {
                if (Maker.MAPS[m][0] == 0) {
                    row(h, m, name);
                } else if (Maker.MAPS[m][0] == 1) {
                    table(h, m, name);
                } else if (Maker.MAPS[m][0] == 3) {
                    records(h, m, name);
                }
            }
        }
        model.trace.clear();
        for (int m = 0; m < Maker.MAPS.length; m++) {
            model.finished(m).clear();
        }
    }

    private static void same(String what, House h, byte[] due) {
        House.due("OUT of " + what, h.house.outs(), due.length);
        for (int i = 0; i < due.length; i++) {
            House.due("byte " + i + " of " + what, h.house.out(i), due[i] & 255);
        }
    }

    private static void row(House h, int m, String name) {
        for (int i = 0; i < Maker.MAPS[m][3]; i++) {
            byte[] key = {(byte) i, 0, 0, 0};
            byte[] due = model.get(m, key);
            House.due("get of " + name, h.tape(key).house.get(m), due.length);
            same("row " + m + " of " + name, h, due);
        }
    }

    private static void table(House h, int m, String name) {
        List<byte[]> due = model.entries(m);
        House.due("size of " + m + " of " + name, h.house.size(m), due.size());
        for (int i = 0; i < due.size(); i++) {
            House.due("entry " + i + " of " + name, h.house.entry(m, i), due.get(i).length);
            same("table " + m + " of " + name, h, due.get(i));
        }
    }

    private static void records(House h, int m, String name) {
        List<byte[]> due = model.finished(m);
        House.due("size of " + m + " of " + name, h.house.size(m), due.size());
        for (byte[] record : due) {
            House.due("next of " + m + " of " + name, h.house.next(m), record.length);
            same("record of " + m + " of " + name, h, record);
        }
        House.due("next of " + m + " of " + name, h.house.next(m), -1);
    }
}
