/** Promises 9 to 12, 17, 31 and 32: deeds, days, the book, what is undone, the image. */
public final class DeedsTest {
    private static final Check CHECK = new Check();
    private static final int NONE = StormSeeds.NONE;

    public static void main(String[] args) {
        sowing();
        weeding();
        turning();
        daysThatCanBe();
        stormsComeUp();
        stormsCross();
        harmAndWet();
        seedsSpread();
        birdsDrop();
        fewBirds();
        planIsFollowed();
        bookIsFull();
        undoing();
        stormsGoBack();
        imaging();
        CHECK.end();
    }

    private static void line(StormSeeds x, int i, int day, int what, int cell, int kind) {
        int[] due = {day, what, cell, kind};
        for (int k = 0; k < 4; k++) {
            CHECK.due("promise 17: book(" + i + ", " + k + ")", x.book(i, k), due[k]);
        }
    }

    private static void sowing() {
        StormSeeds x = new StormSeeds();
        CHECK.no("promise 9: without KINDS", x.sow(0, 0));
        CHECK.text(x, 0, "kind 1 lasts 2 spread 0;kind 9 lasts 1 spread 0;", 2);
        x.set(2, 1, 1);
        CHECK.no("promise 9: no such KIND", x.sow(2, 0));
        CHECK.no("promise 9: KIND -1", x.sow(-1, 0));
        CHECK.no("promise 9: no such CELL", x.sow(0, 5));
        CHECK.no("promise 9: CELL -1", x.sow(0, -1));
        CHECK.no("promise 9: CELL 64", x.sow(0, 64));
        CHECK.no("promise 9: a HEDGE", x.sow(0, 1));
        CHECK.yes("promise 9: sow", x.sow(0, 0));
        CHECK.no("promise 9: a SEED is there", x.sow(1, 0));
        line(x, 0, 0, 0, 0, 0);
        CHECK.due("promise 9: what can't be is not written", x.look(10), 1);
        x.days(2);
        CHECK.due("promise 9: a STORM is there", x.at(0, 4), 0);
        CHECK.yes("promise 9: sown where a STORM was", x.sow(1, 0));
        CHECK.due("promise 9: sown this DAY", x.at(0, 3), 2);
        CHECK.due("promise 9: its KIND", x.at(0, 2), 1);
    }

    private static void weeding() {
        StormSeeds x = new StormSeeds();
        CHECK.text(x, 0, "kind 1 lasts 2 spread 0;kind 9 lasts 1 spread 0;", 2);
        x.sow(1, 12);
        CHECK.no("promise 10: no SEED", x.weed(11));
        CHECK.no("promise 10: CELL -1", x.weed(-1));
        CHECK.no("promise 10: CELL 76, which is no 12", x.weed(76));
        CHECK.yes("promise 10: weed", x.weed(12));
        CHECK.due("promise 10: it is gone", x.at(12, 2), NONE);
        CHECK.no("promise 10: once alone", x.weed(12));
        line(x, 1, 0, 1, 12, 1);
        x.sow(0, 12);
        x.days(1);
        x.days(1);
        CHECK.no("promise 10: a STORM is no SEED", x.weed(12));
    }

    private static void turning() {
        StormSeeds x = new StormSeeds();
        CHECK.no("promise 11: the same", x.turn(1));
        CHECK.no("promise 11: -1", x.turn(-1));
        CHECK.no("promise 11: 4", x.turn(4));
        int[] winds = {0, 2, 3, 1};
        for (int wind : winds) {
            CHECK.yes("promise 11: turn(" + wind + ")", x.turn(wind));
            CHECK.due("promise 11: the WIND", x.look(3), wind);
        }
        CHECK.due("promise 11: no line of THE BOOK", x.look(10), 0);
    }

    private static void daysThatCanBe() {
        StormSeeds x = new StormSeeds();
        CHECK.due("promise 12: days(0)", x.days(0), NONE);
        CHECK.due("promise 12: days(-1)", x.days(-1), NONE);
        CHECK.due("promise 12: days(61)", x.days(61), NONE);
        CHECK.due("promise 12: days(most)", x.days(Integer.MAX_VALUE), NONE);
        CHECK.due("promise 12: nothing is done", x.look(2), 0);
        for (int i = 0; i < 16; i++) {
            CHECK.due("promise 12: days(60)", x.days(60), 0);
        }
        CHECK.due("promise 12: DAY would be 1000", x.days(40), NONE);
        CHECK.due("promise 12: DAY stays", x.look(2), 960);
        CHECK.due("promise 12: up to 999", x.days(39), 0);
        CHECK.due("promise 12: DAY", x.look(2), 999);
        CHECK.due("promise 12: no more", x.days(1), NONE);
    }

    private static void stormsComeUp() {
        StormSeeds x = new StormSeeds();
        CHECK.text(x, 0, "kind 1 lasts 9 spread 0;kind 1 lasts 2 spread 0;kind 3 lasts 1 spread 0;", 3);
        CHECK.text(x, 1, "gust beside+1 when day=1;gust 0 when day=2;gust 5-day;", 3);
        x.sow(0, 9);
        x.sow(0, 10);
        x.sow(1, 17);
        CHECK.due("promise 12: none on DAY 0", x.days(1), 0);
        CHECK.due("promise 12: three on DAY 1", x.days(1), 3);
        CHECK.due("promise 12: asked then, the first", x.at(9, 5), 1);
        CHECK.due("promise 12: asked then, the second", x.at(10, 5), 2);
        CHECK.due("promise 12: asked then, below the first", x.at(17, 5), 2);
        CHECK.due("promise 12: its last DAY", x.at(9, 6), 9);
        CHECK.due("promise 12: its last DAY by its KIND", x.at(17, 6), 2);
        x.sow(1, 10);
        CHECK.due("promise 12: gust 0 on DAY 3", x.days(1), 0);
        x.sow(1, 10);
        // DAY 2 is over; the seed of DAY 2 was due on DAY 3 ahead of this one.
        CHECK.due("promise 12: SEED of DAY 2 lies on DAY 3", x.at(10, 3), 2);
        CHECK.due("promise 12: alike ones, the new one stays", x.days(1), 1);
        CHECK.due("promise 12: its KIND", x.at(10, 4), 1);
        CHECK.due("promise 12: its GUST", x.at(10, 5), 2);
        CHECK.due("promise 12: its last DAY", x.at(10, 6), 4);
        x.sow(1, 9);
        CHECK.due("promise 12: gust 1 on DAY 5 as 5 - 5", x.days(1), 0);
        CHECK.due("promise 12: the SEED is there yet", x.at(9, 2), 1);
        CHECK.due("promise 12: gust 0 does nothing", x.days(1), 0);
        CHECK.due("promise 12: the SEED is gone", x.at(9, 2), NONE);
        CHECK.due("promise 12: the old STORM stays", x.at(9, 4), 0);
        line(x, 3, 1, 2, 9, 0);
        line(x, x.look(10) - 1, 5, 3, 9, 1);

        StormSeeds y = new StormSeeds();
        CHECK.text(y, 0, "kind 1 lasts 9 spread 0;kind 1 lasts 2 spread 0;kind 3 lasts 1 spread 0;", 3);
        CHECK.text(y, 1, "gust 6-kind*2+soil;", 1);
        y.sow(0, 0);
        y.sow(2, 1);
        y.days(2);
        CHECK.due("promise 12: soil is how long it lay", y.at(0, 5), 7);
        y.sow(1, 0);
        CHECK.due("promise 12: SOIL is not over on DAY 2", y.at(1, 2), 2);
        CHECK.due("promise 12: a weaker one does not come up; another does", y.days(2), 1);
        CHECK.due("promise 12: the stronger stays", y.at(0, 5), 7);
        CHECK.due("promise 12: with its last DAY", y.at(0, 6), 9);
        CHECK.due("promise 12: a STORM of one DAY is gone", y.at(1, 4), NONE);
        line(y, 2, 1, 2, 0, 0);
        line(y, 4, 3, 3, 0, 1);
        line(y, 5, 3, 2, 1, 2);
        line(y, 6, 3, 4, 1, 2);
        CHECK.text(y, 1, "gust kind*0+9;", 1);
        y.sow(1, 0);
        CHECK.due("promise 12: a greater one", y.days(2), 1);
        CHECK.due("promise 12: is the STORM now", y.at(0, 4), 1);
        CHECK.due("promise 12: with its GUST", y.at(0, 5), 9);
    }

    private static void stormsCross() {
        StormSeeds x = new StormSeeds();
        CHECK.text(x, 0, "kind 1 lasts 9 spread 0;kind 1 lasts 1 spread 0;kind 1 lasts 4 spread 0;"
                + "cross 1 with 0 to 2;cross 0 with 1 to 0;cross 2 with 2 to 1;", 6);
        CHECK.text(x, 1, "gust 3 when kind=1;gust 0 when day=5;gust 8;", 3);
        x.sow(0, 9);
        x.days(2);
        x.sow(1, 9);
        x.days(1);
        CHECK.due("promise 12: a crossed one counts", x.days(1), 1);
        CHECK.due("promise 12: the first CROSSING, in whatever order", x.at(9, 4), 2);
        CHECK.due("promise 12: the greater of both and 1 more", x.at(9, 5), 9);
        CHECK.due("promise 12: the LASTS of that KIND", x.at(9, 6), 6);
        line(x, 3, 3, 2, 9, 2);
        x.sow(2, 9);
        CHECK.due("promise 12: DAY 4", x.days(1), 0);
        CHECK.due("promise 12: gust 0 does not cross", x.days(1), 0);
        CHECK.due("promise 12: the STORM stays", x.at(9, 4), 2);
        x.sow(2, 9);
        // On DAY 6 the seed of DAY 6 lies yet, and the storm is gone at that DAY's end.
        x.days(1);
        CHECK.due("promise 12: gone behind its last DAY", x.at(9, 4), NONE);
        CHECK.due("promise 12: it comes up by itself", x.days(1), 1);
        CHECK.due("promise 12: of its own KIND", x.at(9, 4), 2);
        x.sow(2, 9);
        x.days(1);
        CHECK.due("promise 12: alike ones cross, too", x.days(1), 1);
        CHECK.due("promise 12: GUST 9 at most, LASTS 1, so it is gone", x.at(9, 4), NONE);
        line(x, x.look(10) - 2, 9, 2, 9, 1);
        line(x, x.look(10) - 1, 9, 4, 9, 1);
        x.sow(2, 9);
        x.days(2);
        x.sow(0, 9);
        x.days(1);
        CHECK.due("promise 12: no CROSSING, alike: the new one", x.days(1), 1);
        CHECK.due("promise 12: its KIND", x.at(9, 4), 0);
        CHECK.due("promise 12: no more for it", x.at(9, 5), 8);
        weakOnesCross();
    }

    private static void weakOnesCross() {
        int[][] gusts = {{1, 1, 2}, {1, 4, 5}, {4, 1, 5}, {8, 3, 9}, {9, 9, 9}};
        for (int[] g : gusts) {
            StormSeeds x = new StormSeeds();
            CHECK.text(x, 0, "kind 1 lasts 9 spread 0;kind 1 lasts 9 spread 0;kind 1 lasts 3 spread 0;cross 0 with 1 to 2;", 4);
            CHECK.text(x, 1, "gust " + g[0] + " when kind=0;gust " + g[1] + ";", 2);
            x.sow(0, 9);
            x.days(2);
            x.sow(1, 9);
            x.days(1);
            CHECK.due("promise 12: crossed", x.days(1), 1);
            CHECK.due("promise 12: of " + g[0] + " and " + g[1], x.at(9, 5), g[2]);
            CHECK.due("promise 12: of the third KIND", x.at(9, 4), 2);
            CHECK.due("promise 12: its last DAY", x.at(9, 6), 5);
        }
    }

    private static void harmAndWet() {
        StormSeeds x = new StormSeeds();
        CHECK.text(x, 0, "kind 1 lasts 9 spread 0;", 1);
        CHECK.text(x, 1, "gust 2 when soil=1;gust 7;harm wet*10+soil;", 3);
        x.sow(0, 0);
        x.set(1, 1, 0);
        x.days(1);
        CHECK.due("promise 12: DAY 0, WET 1 less", x.at(0, 0), 2);
        CHECK.due("promise 12: not below 0", x.at(1, 0), 0);
        x.sow(0, 28);
        x.days(1);
        CHECK.due("promise 12: harm asked ahead of WET", x.look(5), 20);
        CHECK.due("promise 12: WET by a GUST of 2: 1 more", x.at(0, 0), 3);
        CHECK.due("promise 12: odd DAYS dry nothing", x.at(2, 0), 2);
        x.days(1);
        CHECK.due("promise 12: both STORMS harm", x.look(5), 20 + 30 + 20);
        CHECK.due("promise 12: a STORM's CELL does not dry", x.at(0, 0), 4);
        CHECK.due("promise 12: others dry on even DAYS", x.at(2, 0), 1);
        CHECK.text(x, 1, "gust 7;", 1);
        x.set(1, 20, 8);
        x.sow(0, 20);
        x.sow(0, 26);
        x.days(2);
        CHECK.due("promise 12: WET 9 at most", x.at(20, 0), 9);
        CHECK.due("promise 12: WET by a GUST of 7: 2 more", x.at(26, 0), 3);
        CHECK.due("promise 12: harm without a line: GUST", x.at(20, 9), 7);
        CHECK.due("promise 12: HARM", x.look(5), 70 + 4 + 4 + 14);
        CHECK.text(x, 1, "harm 1000 when day<1;harm 0-5;", 2);
        CHECK.due("promise 13: harm held to 0", x.at(20, 9), 0);
        CHECK.text(x, 1, "harm 100;", 1);
        CHECK.due("promise 13: harm held to 99", x.at(20, 9), 99);
    }

    private static void seedsSpread() {
        int[][] down = {{19, 11, 3}, {28, 29, 30}, {35, 43, 51}, {26, 25, 24}};
        for (int wind = 0; wind < 4; wind++) {
            StormSeeds x = new StormSeeds();
            x.land(7, 7);
            CHECK.text(x, 0, "kind 1 lasts 1 spread 3;", 1);
            x.turn(wind);
            x.sow(0, 27);
            x.days(2);
            CHECK.due("promise 12: as many as SPREAD, WIND " + wind, x.look(8), 3);
            for (int cell : down[wind]) {
                CHECK.due("promise 12: down the WIND at " + cell, x.at(cell, 2), 0);
                CHECK.due("promise 12: sown this DAY at " + cell, x.at(cell, 3), 1);
            }
        }
        StormSeeds x = new StormSeeds();
        x.land(7, 2);
        CHECK.text(x, 0, "kind 1 lasts 1 spread 6;kind 9 lasts 1 spread 0;kind 1 lasts 9 spread 0;", 3);
        x.set(2, 6, 1);
        x.sow(0, 1);
        x.sow(1, 2);
        x.sow(2, 3);
        x.days(2);
        CHECK.due("promise 12: a SEED that is there stays", x.at(2, 2), 1);
        CHECK.due("promise 12: none where a STORM is", x.at(3, 2), NONE);
        CHECK.due("promise 12: behind both one falls", x.at(4, 2), 0);
        CHECK.due("promise 12: ahead of the HEDGE", x.at(5, 2), 0);
        CHECK.due("promise 12: not at the HEDGE", x.at(6, 2), NONE);
        CHECK.due("promise 12: not in the next row", x.at(8, 2), NONE);
        line(x, 5, 1, 4, 1, 0);
        line(x, 6, 1, 5, 4, 0);
        line(x, 7, 1, 5, 5, 0);
        StormSeeds y = new StormSeeds();
        CHECK.text(y, 0, "kind 1 lasts 1 spread 4;", 1);
        y.sow(0, 0);
        y.sow(0, 1);
        y.days(2);
        CHECK.due("promise 12: the next STORM is not gone yet", y.at(1, 2), NONE);
        CHECK.due("promise 12: beyond it one falls", y.at(2, 2), 0);
        CHECK.due("promise 12: up to the end of the row", y.look(8), 3);
        y.land(5, 4);
        CHECK.text(y, 0, "kind 1 lasts 1 spread 4;", 1);
        y.turn(3);
        y.sow(0, 0);
        y.sow(0, 1);
        y.days(2);
        CHECK.due("promise 12: the STORM ahead is gone already", y.at(0, 2), 0);
    }

    private static void birdsDrop() {
        StormSeeds x = new StormSeeds();
        x.set(0, 0, 1000);
        x.days(1);
        CHECK.due("promise 12: no DRAW without KINDS", x.look(11), 0);
        CHECK.text(x, 0, "kind 20 lasts 1 spread 0;kind 20 lasts 1 spread 0;kind 20 lasts 1 spread 0;", 3);
        x.days(1);
        int state = 0;
        int[] drawn = new int[3];
        int[] of = {1000, 20, 3};
        for (int i = 0; i < 3; i++) {
            state = state * 1664525 + 1013904223;
            drawn[i] = (state >>> 8) % of[i];
        }
        CHECK.due("promise 12: three DRAWS", x.look(11), state);
        int cell = 8 * (drawn[1] / 5) + drawn[1] % 5;
        CHECK.due("promise 12: the CELL and the KIND by draws", x.at(cell, 2), drawn[2]);
        CHECK.due("promise 12: sown this DAY", x.at(cell, 3), 1);
        line(x, 0, 1, 6, cell, drawn[2]);
        x.state(0);
        x.set(0, 0, drawn[0]);
        x.days(1);
        CHECK.due("promise 12: not below BIRDS, one DRAW", x.look(11), 1013904223);
        x.state(0);
        x.set(0, 0, drawn[0] + 1);
        x.days(1);
        CHECK.due("promise 12: below BIRDS, three DRAWS", x.look(11), state);
        CHECK.due("promise 12: where a SEED is none falls", x.look(10), 1);
        x.weed(cell);
        x.set(2, cell, 1);
        x.state(0);
        x.days(1);
        CHECK.due("promise 12: at a HEDGE none falls", x.look(8), 0);
        CHECK.due("promise 12: three DRAWS yet", x.look(11), state);
        x.blows(60);
        x.harms(60);
        CHECK.due("no DRAWS in thought", x.look(11), state);
    }

    private static void fewBirds() {
        StormSeeds x = new StormSeeds();
        x.land(2, 2);
        CHECK.text(x, 0, "kind 20 lasts 1 spread 0;", 1);
        x.days(1);
        CHECK.due("promise 12: no DRAW without BIRDS", x.look(11), 0);
        x.set(0, 0, 1);
        x.days(1);
        CHECK.due("promise 12: a DRAW for one bird", x.look(11), 1013904223);
        x.set(0, 0, 1000);
        x.state(0);
        x.days(1);
        int state = 0;
        int[] drawn = new int[3];
        for (int i = 0; i < 3; i++) {
            state = state * 1664525 + 1013904223;
            drawn[i] = state >>> 8;
        }
        CHECK.due("promise 12: three DRAWS for one KIND", x.look(11), state);
        int place = drawn[1] % 4;
        CHECK.due("promise 12: in a land of two by two", x.at(8 * (place / 2) + place % 2, 2), 0);
        StormSeeds y = new StormSeeds();
        y.land(2, 2);
        CHECK.text(y, 0, "kind 1 lasts 9 spread 0;", 1);
        for (int cell : new int[] {0, 1, 8, 9}) {
            y.sow(0, cell);
        }
        y.days(2);
        y.set(0, 0, 1000);
        y.days(3);
        CHECK.due("promise 12: where STORMS are none falls", y.look(8), 0);
    }

    private static void planIsFollowed() {
        StormSeeds x = new StormSeeds();
        CHECK.text(x, 0, "kind 1 lasts 1 spread 1;kind 2 lasts 1 spread 0;", 2);
        x.set(2, 3, 1);
        CHECK.text(x, 3, "on 1 weed 0;on 1 sow 0 at 0;on 1 sow 1 at 0;on 2 sow 1 at 1;on 2 weed 1;"
                + "on 1 sow 0 at 3;on 2 south;on 2 south;on 3 weed 9;on 0 east;", 10);
        x.days(1);
        CHECK.due("promise 12: nothing on DAY 0", x.look(10), 0);
        x.days(1);
        CHECK.due("promise 12: line by line, what can be done", x.at(0, 2), 0);
        CHECK.due("promise 12: no SEED at a HEDGE", x.at(3, 2), NONE);
        line(x, 0, 1, 0, 0, 0);
        CHECK.due("promise 12: one line of THE BOOK", x.look(10), 1);
        CHECK.due("promise 12: it comes up on DAY 2", x.days(1), 1);
        CHECK.due("promise 12: turned by A PLAN", x.look(3), 2);
        line(x, 1, 2, 0, 1, 1);
        line(x, 2, 2, 1, 1, 1);
        line(x, 3, 2, 2, 0, 0);
        line(x, 4, 2, 4, 0, 0);
        line(x, 5, 2, 5, 8, 0);
        x.days(1);
        CHECK.due("promise 12: what can't be is let be", x.look(3), 2);
        CHECK.text(x, 3, "on 4 north;on 5 east;on 6 south;on 7 west;", 4);
        int[] winds = {0, 1, 2, 3};
        for (int wind : winds) {
            x.days(1);
            CHECK.due("promise 12: A PLAN turns to " + wind, x.look(3), wind);
        }
    }

    private static void bookIsFull() {
        StormSeeds x = new StormSeeds();
        CHECK.text(x, 0, "kind 1 lasts 1 spread 0;", 1);
        for (int i = 0; i < 74; i++) {
            x.sow(0, 4);
            x.weed(4);
        }
        x.sow(0, 3);
        x.sow(0, 2);
        x.sow(0, 1);
        CHECK.due("promise 17: 150 lines", x.look(10), 150);
        line(x, 149, 0, 0, 2, 0);
        CHECK.due("promise 17: no more then", x.book(150, 0), NONE);
        x.undo();
        CHECK.due("promise 31: THE BOOK is full yet", x.look(10), 150);
        x.undo();
        CHECK.due("promise 31: THE BOOK goes back", x.look(10), 149);
        CHECK.due("promise 17: line -1", x.book(-1, 0), NONE);
        CHECK.due("promise 17: line 149 is none", x.book(149, 0), NONE);
        CHECK.due("promise 17: what -1", x.book(0, -1), NONE);
        CHECK.due("promise 17: what 4", x.book(0, 4), NONE);
    }

    private static void undoing() {
        StormSeeds x = new StormSeeds();
        CHECK.text(x, 0, "kind 1 lasts 1 spread 1;", 1);
        x.set(0, 0, 1000);
        x.state(5);
        x.sow(0, 0);
        x.turn(2);
        x.days(3);
        CHECK.yes("promise 10: a SEED that fell", x.weed(16));
        CHECK.due("promise 33: what can be undone", x.look(15), 6);
        while (x.look(2) > 0) {
            CHECK.yes("promise 31: undo", x.undo());
        }
        CHECK.due("promise 31: DAY by DAY", x.look(2), 0);
        CHECK.due("promise 31: STATE, too", x.look(11), 5);
        CHECK.due("promise 31: THE BOOK, too", x.look(10), 1);
        CHECK.due("promise 31: WET, too", x.at(4, 0), 3);
        CHECK.due("promise 31: HARM, too", x.look(5), 0);
        CHECK.due("promise 31: two are left", x.look(15), 2);
        CHECK.yes("promise 31: the TURNING", x.undo());
        CHECK.due("promise 31: the WIND", x.look(3), 1);
        CHECK.yes("promise 31: the SOWING", x.undo());
        CHECK.due("promise 31: no line of THE BOOK", x.look(10), 0);
        CHECK.due("promise 31: no SEED", x.at(0, 2), NONE);
        CHECK.no("promise 31: nothing is left", x.undo());
        x.days(9);
        CHECK.due("promise 31: 6 are kept", x.look(15), 6);
        for (int i = 0; i < 6; i++) {
            CHECK.yes("promise 31: one of 6", x.undo());
        }
        CHECK.due("promise 31: back to DAY 3", x.look(2), 3);
        CHECK.no("promise 31: the 7th", x.undo());
        whatForgets();
    }

    private static void whatForgets() {
        StormSeeds x = new StormSeeds();
        CHECK.text(x, 0, "kind 1 lasts 1 spread 1;", 1);
        x.image(true);
        x.turn(0);
        CHECK.text(x, 1, "gust 5;", 1);
        CHECK.text(x, 2, "want 0 at 0 on 9 worth 3;", 1);
        CHECK.due("promise 31: THE LAW, WANTS forget nothing", x.look(15), 1);
        x.image(true);
        CHECK.due("promise 31: nor does the taking of THE IMAGE", x.look(15), 1);
        x.days(0);
        x.sow(9, 9);
        x.turn(0);
        x.land(9, 9);
        CHECK.due("promise 31: nor what can't be", x.look(15), 1);
        CHECK.yes("promise 31: undo", x.undo());
        CHECK.due("promise 31: THE LAW stays", x.look(12), 1);
        CHECK.due("promise 31: WANTS stay", x.look(13), 1);
        x.turn(0);
        CHECK.text(x, 3, "", 0);
        CHECK.no("promise 31: A PLAN forgets", x.undo());
        x.turn(2);
        CHECK.text(x, 0, "", 0);
        CHECK.no("promise 31: KINDS forget", x.undo());
        x.turn(0);
        x.set(0, 0, 0);
        CHECK.no("promise 31: set forgets", x.undo());
        x.turn(2);
        x.image(false);
        CHECK.no("promise 31: THE IMAGE gone back to forgets", x.undo());
        x.turn(3);
        x.land(5, 4);
        CHECK.no("promise 31: land forgets", x.undo());
    }

    private static void stormsGoBack() {
        StormSeeds x = new StormSeeds();
        CHECK.text(x, 0, "kind 1 lasts 9 spread 0;kind 1 lasts 5 spread 0;", 2);
        CHECK.text(x, 1, "gust 3+kind;", 1);
        x.sow(0, 9);
        x.days(2);
        x.sow(1, 9);
        x.image(true);
        for (int round = 0; round < 2; round++) {
            CHECK.due("promise 12: the stronger one stays", x.days(2), 1);
            int[] due = {1, 4, 7};
            int[] was = {0, 3, 9};
            for (int i = 0; i < 3; i++) {
                CHECK.due("promise 13: the new STORM", x.at(9, 4 + i), due[i]);
            }
            if (round == 0) {
                x.undo();
                x.undo();
            } else {
                x.image(false);
            }
            for (int i = 0; i < 3; i++) {
                CHECK.due("promises 31, 32: the old STORM", x.at(9, 4 + i), was[i]);
            }
        }
    }

    private static void imaging() {
        StormSeeds x = new StormSeeds();
        CHECK.no("promise 32: there is none", x.image(false));
        x.land(3, 3);
        CHECK.text(x, 0, "kind 1 lasts 3 spread 1;kind 1 lasts 1 spread 0;cross 0 with 1 to 1;", 3);
        CHECK.text(x, 1, "gust 4;harm kind+1;", 2);
        CHECK.text(x, 2, "want 0 at 0 on 9 worth 3;", 1);
        x.set(0, 0, 1);
        x.set(2, 8, 1);
        x.set(1, 9, 7);
        x.state(99);
        x.sow(0, 0);
        x.days(2);
        x.sow(1, 10);
        CHECK.text(x, 3, "on 9 weed 0;", 1);
        x.turn(2);
        int[] looks = new int[15];
        for (int i = 0; i < 15; i++) {
            looks[i] = x.look(i);
        }
        int wet = x.at(9, 0);
        CHECK.yes("promise 32: it is taken", x.image(true));
        CHECK.due("promise 32: what can be undone stays", x.look(15), 1);
        for (int round = 0; round < 2; round++) {
            x.turn(3);
            x.days(4);
            x.set(0, 0, 500);
            x.set(2, 8, 0);
            x.set(1, 9, 1);
            x.state(1);
            CHECK.fault(x, 1, "!", 1, 0);
            CHECK.text(x, 1, "", 0);
            CHECK.text(x, 0, "kind 9 lasts 9 spread 5;", 1);
            x.land(7, 7);
            CHECK.fault(x, 1, "gust !", 1, 5);
            Check.put(x, "gust 1;gust 2;");
            CHECK.yes("promise 32: gone back to", x.image(false));
            for (int i = 0; i < 15; i++) {
                CHECK.due("promise 32: look(" + i + ")", x.look(i), looks[i]);
            }
            CHECK.due("promise 32: nothing can be undone", x.look(15), 0);
            CHECK.due("promise 32: the HEDGE", x.at(8, 1), 1);
            CHECK.due("promise 32: WET", x.at(9, 0), wet);
            CHECK.due("promise 32: the SEED", x.at(10, 2), 1);
            CHECK.due("promise 32: the STORM", x.at(0, 5), 4);
            CHECK.due("promise 32: its harm by THE LAW", x.at(0, 9), 1);
            CHECK.due("promise 32: a KIND", x.kind(0, 1), 3);
            CHECK.due("promise 32: a CROSSING", x.cross(0, 1), 1);
            CHECK.due("promise 32: fault() is not of it", x.fault(1), 5);
            line(x, 0, 0, 0, 0, 0);
            line(x, 2, 2, 0, 10, 1);
            CHECK.due("promise 32: the tape is not of it", x.text(1), 2);
        }
    }
}
