/** Promises 1 to 3: a new object, feed, cut. */
public final class TapeTest {
    public static void main(String[] args) {
        newObject();
        feedAndCut();
        House.end();
    }

    private static void newObject() {
        FilterHouse x = new FilterHouse();
        for (int slot = -1; slot <= 8; slot++) {
            House.due("words " + slot, x.words(slot), 0);
            House.due("word " + slot, x.word(slot, 0), 0);
            House.due("print " + slot, x.print(slot), -1);
            House.due("judge " + slot, x.judge(slot), -1);
            House.due("taken " + slot, x.taken(slot), false);
            House.due("run " + slot, x.run(slot, 0), -1);
            House.due("size " + slot, x.size(slot), -1);
        }
        House.due("length", x.length(), 0);
        House.due("packetByte", x.packetByte(0), -1);
        House.due("outs", x.outs(), 0);
        House.due("out", x.out(0), -1);
        House.due("mark", x.mark(), 0);
        House.due("result", x.result(), 0);
        House.due("tails", x.tails(), 0);
        House.due("steps", x.steps(), 0);
        House.due("traces", x.traces(), 0);
        House.due("trace", x.trace(0), -1);
        House.due("tear", x.tear(), 0);
        House.due("told 0", x.told(0), -1);
        for (int what = 1; what <= 5; what++) {
            House.due("told " + what, x.told(what), 0);
        }
        House.due("told 6", x.told(6), -1);
        House.due("told -1", x.told(-1), -1);
        House.due("NONE", FilterHouse.NONE, -1);
        // chances are 1 at first
        House house = new House();
        House.due("first chance", house.judge(0, "call 7\nexit"), 0);
        house.house.run(0, 0);
        long chance = 6364136223846793005L + 1442695040888963407L;
        House.due("first chance", house.house.result(), chance >>> 32);
    }

    private static void feedAndCut() {
        FilterHouse x = new FilterHouse();
        House.due("cut -1", x.cut(-1), -1);
        House.due("cut 1", x.cut(1), -1);
        House.due("cut 0", x.cut(0), 0);
        House.due("feed", x.feed(0x01020304, 0x85868788, 3, 4, -1), 20);
        House.due("cut 21", x.cut(21), -1);
        House.due("cut 8", x.cut(8), 12);
        House.due("load", x.load(0), 1);
        House.due("word", x.word(0, 0), 0x8887868504030201L);
        for (int i = 1; i <= 200; i++) {
            House.due("feed " + i, x.feed(1, 2, 3, 4, 5), 20 * i);
        }
        House.due("feed beyond", x.feed(1, 2, 3, 4, 5), -1);
        House.due("cut of all", x.cut(3981), 19);
        House.due("feed beyond", x.feed(1, 2, 3, 4, 5), -1);
        House.due("cut", x.cut(3980), 1);
        House.due("feed to the end", x.feed(1, 2, 3, 4, 5), 4000);
        // what reads the tape uses it up, whatever it answers
        House.due("packet", x.packet(), -1);
        House.due("cut behind", x.cut(1), -1);
        House.due("feed behind", x.feed(1, 2, 3, 4, 5), 20);
        House.due("load", x.load(9), -1);
        House.due("cut behind", x.cut(1), -1);
    }
}
