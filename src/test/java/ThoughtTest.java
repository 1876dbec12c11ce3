/** Promises 18 to 23 and 27: what is in thought. */
public final class ThoughtTest {
    private static final Check CHECK = new Check();
    private static final int NONE = StormSeeds.NONE;

    public static void main(String[] args) {
        blowing();
        beyondTheLastDay();
        nothingStays();
        meeting();
        sowing();
        sowingFarAhead();
        getting();
        weeding();
        weedingTenSeeds();
        calm();
        CHECK.end();
    }

    private static long set(int... cells) {
        long set = 0;
        for (int cell : cells) {
            set |= 1L << cell;
        }
        return set;
    }

    private static void blowing() {
        StormSeeds x = new StormSeeds();
        x.land(7, 7);
        CHECK.text(x, 0, "kind 1 lasts 2 spread 1;kind 1 lasts 1 spread 0;", 2);
        CHECK.text(x, 1, "gust 4+kind;", 1);
        CHECK.text(x, 3, "on 1 sow 1 at 54;on 3 weed 49;", 2);
        x.sow(0, 48);
        CHECK.due("promise 18: DAY 0", x.blows(1), 0);
        CHECK.due("promise 18: DAY 1", x.blows(2), set(48));
        CHECK.due("promise 18: DAY 2, ahead of (d)", x.blows(3), set(48, 54));
        CHECK.due("promise 18: DAY 3, weeded by A PLAN", x.blows(4), 0);
        CHECK.due("promise 18: the 60th DAY", x.blows(60), 0);
        x.sow(1, 0);
        x.days(1);
        CHECK.text(x, 3, "on 1 sow 1 at 54;on 1 weed 0;on 3 weed 49;", 3);
        CHECK.due("promise 18: A PLAN for this DAY, too", x.blows(1), set(48));
        CHECK.text(x, 0, "kind 1 lasts 2 spread 1;kind 1 lasts 1 spread 0;", 2);
        CHECK.text(x, 3, "on 2 sow 1 at 54;on 4 weed 49;", 2);
        x.sow(0, 48);
        int[] harm = {0, 4, 4 + 4 + 5, 13, 13};
        for (int n = 1; n <= 5; n++) {
            CHECK.due("promise 19: of " + n + " DAYS", x.harms(n), harm[n - 1]);
        }
        x.days(2);
        CHECK.due("promise 33: HARM", x.look(5), 4);
        CHECK.due("promise 33: DAY", x.look(2), 3);
        CHECK.due("promise 19: of this DAY alone", x.harms(1), 9);
        CHECK.due("promise 18: of this DAY", x.blows(1), set(48, 54));
        for (int n : new int[] {0, -1, 61, Integer.MAX_VALUE, Integer.MIN_VALUE}) {
            CHECK.due("promise 18: blows(" + n + ")", x.blows(n), NONE);
            CHECK.due("promise 19: harms(" + n + ")", x.harms(n), NONE);
        }
    }

    private static void beyondTheLastDay() {
        StormSeeds x = new StormSeeds();
        CHECK.text(x, 0, "kind 20 lasts 1 spread 1;", 1);
        CHECK.text(x, 1, "gust day-1017;", 1);
        for (int i = 0; i < 16; i++) {
            x.days(60);
        }
        x.days(39);
        x.sow(0, 0);
        CHECK.due("promise 18: thought goes on beyond DAY 999", x.blows(21), 1);
        CHECK.due("promise 19: with the DAY", x.harms(21), 2);
        CHECK.due("promise 27: beyond, too", x.calm(0, 60, 1), 1020);
    }

    private static void nothingStays() {
        StormSeeds x = new StormSeeds();
        CHECK.text(x, 0, "kind 1 lasts 2 spread 3;", 1);
        CHECK.text(x, 2, "want 0 at 2 on 9 worth 5;", 1);
        CHECK.text(x, 3, "on 1 sow 0 at 8;on 2 south;", 2);
        x.set(0, 0, 1000);
        x.sow(0, 0);
        int[] before = new int[16];
        for (int i = 0; i < 16; i++) {
            before[i] = x.look(i);
        }
        x.blows(60);
        x.harms(60);
        x.meets(0);
        x.sows(0, 0);
        x.gets(0, 0, 3);
        x.weeds(2, 9, 0);
        x.calm(0, 60, 0);
        for (int i = 0; i < 16; i++) {
            CHECK.due("in thought nothing stays: look(" + i + ")", x.look(i), before[i]);
        }
        CHECK.due("in thought nothing stays: WET", x.at(0, 0), 3);
        CHECK.due("in thought nothing stays: the SEED", x.at(0, 3), 0);
        CHECK.due("in thought no BIRDS", x.blows(2), 1);
    }

    private static void meeting() {
        StormSeeds x = new StormSeeds();
        CHECK.due("promise 20: without WANTS", x.meets(0), 0);
        CHECK.due("promise 20: none is not met", x.meets(1), NONE);
        CHECK.text(x, 0, "kind 1 lasts 2 spread 0;kind 1 lasts 1 spread 0;", 2);
        x.sow(0, 0);
        CHECK.text(x, 2, "want 0 at 0 on 2 worth 1;want 1 at 0 on 2 worth 2;want calm at 0 on 3 worth 4;"
                + "want calm at 0 on 1 worth 8;want 0 at 0 on 1 worth 16;want calm at 1 on 999 worth 32;want 0 at 1 on 1 worth 64;", 7);
        CHECK.due("promise 20: the worth", x.meets(0), 1 + 4 + 16 + 32);
        CHECK.due("promise 20: by DAY, then number", x.meets(1), 3);
        x.days(2);
        CHECK.due("promise 20: of DAYS from this one on", x.meets(0), 1 + 4 + 32);
        CHECK.due("promise 20: the first of these", x.meets(1), 1);
        x.days(1);
        CHECK.due("promise 20: DAY 2 is behind", x.meets(0), 4 + 32);
        CHECK.due("promise 20: all are met", x.meets(1), NONE);
        CHECK.text(x, 3, "on 3 sow 0 at 8;on 5 sow 0 at 9;on 6 weed 9;", 3);
        CHECK.text(x, 2, "want 0 at 8 on 4 worth 5;want 0 at 9 on 6 worth 6;want calm at 8 on 5 worth 7;", 3);
        CHECK.due("promise 20: with A PLAN", x.meets(0), 5);
        CHECK.due("promise 20: the first with A PLAN", x.meets(1), 2);
        CHECK.due("promise 20: another what", x.meets(2), NONE);
        CHECK.due("promise 20: what -1", x.meets(-1), NONE);
    }

    private static void sowing() {
        StormSeeds x = new StormSeeds();
        x.land(4, 2);
        CHECK.text(x, 0, "kind 1 lasts 1 spread 1;kind 2 lasts 1 spread 0;", 2);
        CHECK.text(x, 1, "gust 5-kind*2;", 1);
        CHECK.text(x, 2, "want 0 at 1 on 2 worth 1;want 1 at 1 on 2 worth 1;want calm at 1 on 2 worth 1;want 0 at 3 on 0 worth 1;"
                + "want 0 at 3 on 60 worth 1;want 0 at 3 on 61 worth 1;", 6);
        // KIND 0 at 0 blows on DAY 1, falls at 1 and blows there on DAY 2: HARM 5 and 5.
        int[] due = {0, 0, 10};
        for (int what = 0; what < 3; what++) {
            CHECK.due("promise 21: sows(0, " + what + ")", x.sows(0, what), due[what]);
        }
        int[] other = {1, 1, 3};
        for (int what = 0; what < 3; what++) {
            CHECK.due("promise 21: sows(1, " + what + ")", x.sows(1, what), other[what]);
        }
        int[] calm = {1, 0, 3};
        for (int what = 0; what < 3; what++) {
            CHECK.due("promise 21: of calm: sows(2, " + what + ")", x.sows(2, what), calm[what]);
        }
        CHECK.due("promise 21: by none", x.sows(3, 0), NONE);
        CHECK.due("promise 21: by none no CELL", x.sows(3, 1), NONE);
        CHECK.due("promise 21: by none no HARM", x.sows(3, 2), NONE);
        CHECK.due("promise 21: no such WANT", x.sows(6, 0), NONE);
        CHECK.due("promise 21: WANT -1", x.sows(-1, 0), NONE);
        CHECK.due("promise 21: another what", x.sows(0, 3), NONE);
        CHECK.due("promise 21: what -1", x.sows(0, -1), NONE);
        x.set(2, 0, 1);
        CHECK.due("promise 21: not at a HEDGE", x.sows(0, 0), NONE);
        x.set(2, 0, 0);
        x.sow(1, 1);
        CHECK.due("promise 21: not where a SEED is", x.sows(1, 1), 0);
        x.weed(1);
        x.sow(0, 3);
        x.days(2);
        CHECK.due("promise 33: HARM", x.look(5), 5);
        CHECK.text(x, 2, "want 1 at 1 on 4 worth 1;want 0 at 3 on 2 worth 1;", 2);
        CHECK.due("promise 21: HARM up to now does not count", x.sows(0, 2), 3);
        x.undo();
        x.undo();
        x.undo();
        CHECK.text(x, 2, "want 0 at 1 on 2 worth 1;want 1 at 1 on 2 worth 1;want calm at 1 on 2 worth 1;want 0 at 3 on 0 worth 1;", 4);
        x.days(1);
        CHECK.due("promise 21: its DAY is behind", x.sows(3, 0), NONE);
        CHECK.due("promise 21: on DAY 2 from DAY 1", x.sows(0, 1), 1);
    }

    private static void sowingFarAhead() {
        StormSeeds x = new StormSeeds();
        CHECK.text(x, 0, "kind 1 lasts 1 spread 0;kind 1 lasts 9 spread 0;", 2);
        CHECK.text(x, 1, "gust 0 when kind=0;gust 9;harm day;", 3);
        CHECK.text(x, 2, "want calm at 28 on 60 worth 1;want calm at 28 on 61 worth 1;want calm at 28 on 0 worth 1;want 1 at 9 on 5 worth 1;", 4);
        CHECK.due("promise 21: 60 from now", x.sows(0, 1), 0);
        CHECK.due("promise 21: the least HARM", x.sows(0, 2), 0);
        CHECK.due("promise 21: 61 from now", x.sows(1, 1), NONE);
        CHECK.due("promise 21: this DAY", x.sows(2, 1), 0);
        CHECK.due("promise 21: that DAY's HARM, too", x.sows(3, 2), 1 + 2 + 3 + 4 + 5);
        x.days(1);
        CHECK.due("promise 21: 60 from DAY 1", x.sows(1, 1), 0);
    }

    private static void getting() {
        StormSeeds x = new StormSeeds();
        x.land(7, 3);
        CHECK.text(x, 0, "kind 3 lasts 2 spread 2;kind 20 lasts 9 spread 1;kind 1 lasts 1 spread 0;cross 0 with 0 to 2;", 4);
        // Sown on DAY 0, blows on 3 and 4, falls on 4, blows on 7.
        CHECK.due("promise 22: two cells down", x.gets(0, 0, 2), 8);
        CHECK.due("promise 22: three cells down", x.gets(0, 0, 3), 12);
        CHECK.due("promise 22: up the WIND never", x.gets(0, 3, 0), NONE);
        CHECK.due("promise 22: in another row never", x.gets(0, 0, 9), NONE);
        CHECK.due("promise 22: without SPREAD never", x.gets(2, 0, 1), NONE);
        CHECK.due("promise 22: on DAY 49", x.gets(1, 0, 1), 49);
        CHECK.due("promise 22: on DAY 77", x.gets(1, 0, 2), 77);
        CHECK.due("promise 22: 105 is too late", x.gets(1, 0, 3), NONE);
        CHECK.due("promise 22: no other CELL", x.gets(0, 0, 0), NONE);
        CHECK.due("promise 22: no such KIND", x.gets(3, 0, 1), NONE);
        CHECK.due("promise 22: no such CELL to start", x.gets(0, 7, 1), NONE);
        CHECK.due("promise 22: no such CELL to get to", x.gets(0, 0, 7), NONE);
        CHECK.due("promise 22: CELL -1", x.gets(0, 0, -1), NONE);
        CHECK.text(x, 3, "on 0 west;on 0 weed 0;", 2);
        x.sow(1, 0);
        x.sow(0, 1);
        CHECK.due("promise 22: without any SEED or PLAN", x.gets(0, 0, 2), 8);
        x.days(3);
        x.turn(1);
        CHECK.due("promise 22: a STORM is there on this DAY", x.blows(1), set(1));
        CHECK.due("promise 22: without any STORM", x.gets(0, 0, 1), 8);
        x.set(2, 2, 1);
        CHECK.due("promise 22: not past a HEDGE", x.gets(0, 0, 3), NONE);
        CHECK.due("promise 22: a HEDGE can't be sown", x.gets(0, 2, 3), NONE);
        CHECK.text(x, 1, "gust 0 when day<9;gust 1;", 2);
        CHECK.due("promise 22: by THE LAW", x.gets(0, 0, 1), NONE);

        StormSeeds y = new StormSeeds();
        y.land(7, 2);
        CHECK.text(y, 0, "kind 20 lasts 9 spread 3;kind 20 lasts 5 spread 3;", 2);
        // DAYS 20, 48 (28 later), 76; with LASTS 5: 20, 44, 68.
        CHECK.due("promise 22: 77", y.gets(0, 0, 6), 77);
        CHECK.due("promise 22: 69", y.gets(1, 0, 6), 69);
        // DAYS 20, 46, 72, 98; and 19, 39, 59, 79, 99, which is the 100th.
        CHECK.text(y, 0, "kind 20 lasts 7 spread 1;kind 19 lasts 2 spread 1;kind 19 lasts 1 spread 1;", 3);
        CHECK.due("promise 22: 99", y.gets(0, 0, 3), 99);
        CHECK.due("promise 22: 100 is too late", y.gets(1, 0, 4), NONE);
        CHECK.due("promise 22: 80", y.gets(1, 0, 3), 80);
        CHECK.due("promise 22: 96", y.gets(2, 0, 4), 96);
    }

    private static void weeding() {
        StormSeeds x = new StormSeeds();
        CHECK.text(x, 0, "kind 1 lasts 1 spread 2;kind 3 lasts 1 spread 0;", 2);
        x.sow(0, 1);
        x.sow(1, 0);
        x.sow(1, 4);
        CHECK.due("promise 23: none is needed", x.weeds(set(8, 9), 60, 0), 0);
        CHECK.due("promise 23: the empty set", x.weeds(set(8, 9), 60, 1), 0);
        CHECK.due("promise 23: one", x.weeds(set(1), 9, 0), 1);
        CHECK.due("promise 23: which", x.weeds(set(1), 9, 1), set(1));
        CHECK.due("promise 23: DAY 0 is calm by itself", x.weeds(set(1), 1, 0), 0);
        CHECK.due("promise 23: on DAY 2 it gets to 3", x.weeds(set(3), 3, 1), set(1));
        CHECK.due("promise 23: two DAYS are calm", x.weeds(set(3), 2, 0), 0);
        CHECK.due("promise 23: two", x.weeds(set(0, 3), 9, 0), 2);
        CHECK.due("promise 23: both", x.weeds(set(0, 3), 9, 1), set(0, 1));
        // With the SEED of 1 that of 4 has a STORM beyond it: only weeding both keeps 4 calm.
        CHECK.due("promise 23: 4", x.weeds(set(4), 9, 1), set(1, 4));
        CHECK.due("promise 23: of no CELLS", x.weeds(0, 60, 0), 0);
        CHECK.due("promise 23: n 0", x.weeds(0, 0, 0), NONE);
        CHECK.due("promise 23: n 61", x.weeds(0, 61, 0), NONE);
        CHECK.due("promise 23: another what", x.weeds(0, 1, 2), NONE);
        CHECK.due("promise 23: what -1", x.weeds(0, 1, -1), NONE);
        CHECK.due("promise 23: no such CELL", x.weeds(set(5), 1, 0), NONE);
        CHECK.due("promise 23: no such row", x.weeds(set(32), 1, 0), NONE);
        CHECK.due("promise 23: all bits", x.weeds(-1, 1, 0), NONE);
        CHECK.due("promise 23: the highest bit", x.weeds(Long.MIN_VALUE, 1, 1), NONE);
        CHECK.due("promise 23: all CELLS", x.weeds(0x1F1F1F1FL, 60, 1), set(0, 1, 4));
        CHECK.text(x, 3, "on 4 sow 0 at 1;", 1);
        CHECK.due("promise 23: by none, for A PLAN sows", x.weeds(set(1), 9, 0), NONE);
        CHECK.due("promise 23: no set, too", x.weeds(set(1), 9, 1), NONE);
        CHECK.due("promise 23: ahead of that", x.weeds(set(1), 5, 1), set(1));
    }

    private static void weedingTenSeeds() {
        StormSeeds x = new StormSeeds();
        x.land(7, 7);
        CHECK.text(x, 0, "kind 1 lasts 1 spread 1;", 1);
        for (int y = 0; y < 5; y++) {
            x.sow(0, 8 * y);
            x.sow(0, 8 * y + 1);
        }
        CHECK.due("promise 23: ten SEEDS", x.weeds(set(0, 1, 8, 9, 16, 17, 24, 25, 32, 33), 2, 0), 10);
        CHECK.due("promise 23: all of them", x.weeds(set(0, 1, 8, 9, 16, 17, 24, 25, 32, 33), 2, 1), set(0, 1, 8, 9, 16, 17, 24, 25, 32, 33));
        CHECK.due("promise 23: the last one", x.weeds(set(33), 2, 1), set(33));
        x.sow(0, 48);
        CHECK.due("promise 23: eleven", x.weeds(set(33), 2, 1), NONE);
        CHECK.due("promise 23: eleven, though none is needed", x.weeds(0, 1, 0), NONE);

        StormSeeds y = new StormSeeds();
        CHECK.text(y, 0, "kind 1 lasts 1 spread 0;", 1);
        CHECK.text(y, 1, "gust 5 when beside>0;gust 0 when edge=0;gust 1;", 3);
        y.sow(0, 1);
        y.sow(0, 8);
        y.sow(0, 9);
        CHECK.due("promise 23: both beside are needed or itself", y.weeds(set(9), 2, 0), 1);
        CHECK.due("promise 23: the fewest", y.weeds(set(9), 2, 1), set(9));
        y.weed(8);
        CHECK.due("promise 23: of several the least", y.weeds(set(9), 2, 1), set(1));
    }

    private static void calm() {
        StormSeeds x = new StormSeeds();
        CHECK.text(x, 0, "kind 1 lasts 2 spread 0;", 1);
        CHECK.text(x, 3, "on 4 sow 0 at 9;on 9 sow 0 at 9;", 2);
        x.sow(0, 9);
        // STORMS at 9 on DAYS 1, 2, 5, 6, 10, 11.
        int[][] due = {{1, 1, 0}, {2, 1, 0}, {3, 1, 0}, {4, 1, 0}, {5, 2, 3}, {8, 2, 3}, {9, 2, 3}, {10, 3, 7}, {14, 3, 7}, {15, 3, 7}, {16, 4, 12}, {60, 48, 12}};
        for (int[] d : due) {
            CHECK.due("promise 27: calm(9, " + d[0] + ", 0)", x.calm(9, d[0], 0), d[1]);
            CHECK.due("promise 27: calm(9, " + d[0] + ", 1)", x.calm(9, d[0], 1), d[2]);
        }
        x.days(1);
        CHECK.due("promise 27: never calm", x.calm(9, 2, 0), 0);
        CHECK.due("promise 27: no first DAY", x.calm(9, 2, 1), NONE);
        CHECK.due("promise 27: another CELL", x.calm(10, 60, 0), 60);
        CHECK.due("promise 27: from this DAY on", x.calm(10, 60, 1), 1);
        CHECK.due("promise 27: n 0", x.calm(9, 0, 0), NONE);
        CHECK.due("promise 27: n 61", x.calm(9, 61, 0), NONE);
        CHECK.due("promise 27: no such CELL", x.calm(5, 1, 0), NONE);
        CHECK.due("promise 27: CELL -1", x.calm(-1, 1, 0), NONE);
        CHECK.due("promise 27: another what", x.calm(10, 1, 2), NONE);
        CHECK.due("promise 27: what -1", x.calm(9, 1, -1), NONE);
    }
}
