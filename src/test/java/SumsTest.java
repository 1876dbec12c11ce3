/** Promises 28 to 30: how good an old seed is, when to open it, the game. */
public final class SumsTest {
    private static final Check CHECK = new Check();
    private static final int NONE = StormSeeds.NONE;

    public static void main(String[] args) {
        good();
        open();
        game();
        CHECK.end();
    }

    private static void good() {
        StormSeeds x = new StormSeeds();
        CHECK.due("promise 28: ahead of any year", x.good(0, 1000), 1000000);
        CHECK.due("promise 28: all are lost", x.good(1, 1000), 0);
        CHECK.due("promise 28: none is lost", x.good(60, 0), 1000000);
        CHECK.due("promise 28: one year", x.good(1, 333), 667000);
        CHECK.due("promise 28: two years", x.good(2, 333), 444889);
        // 444889 * 667 / 1000 = 296740.963, 296740 * 667 / 1000 = 197925.58
        CHECK.due("promise 28: downwards", x.good(3, 333), 296740);
        CHECK.due("promise 28: year by year", x.good(4, 333), 197925);
        CHECK.due("promise 28: to the end", x.good(60, 999), 0);
        CHECK.due("promise 28: n 61", x.good(61, 1), NONE);
        CHECK.due("promise 28: n -1", x.good(-1, 1), NONE);
        CHECK.due("promise 28: p 1001", x.good(1, 1001), NONE);
        CHECK.due("promise 28: p -1", x.good(1, -1), NONE);
    }

    private static void open() {
        StormSeeds x = new StormSeeds();
        CHECK.due("promise 29: nothing is lost", x.open(0, 1), 60);
        CHECK.due("promise 29: of several the first", x.open(0, 0), 0);
        CHECK.due("promise 29: all is lost", x.open(1000, 99), 0);
        // 0.9 and 99 a year more: 8 years 3.8405.., 9 years 3.8391..
        CHECK.due("promise 29: open(100, 99)", x.open(100, 99), 8);
        CHECK.due("promise 29: alike ones, the first", x.open(100, 20), 4);
        CHECK.due("promise 29: half of it", x.open(500, 99), 0);
        CHECK.due("promise 29: p 1001", x.open(1001, 0), NONE);
        CHECK.due("promise 29: p -1", x.open(-1, 0), NONE);
        CHECK.due("promise 29: g 100", x.open(0, 100), NONE);
        CHECK.due("promise 29: g -1", x.open(0, -1), NONE);
    }

    private static void game() {
        StormSeeds x = new StormSeeds();
        x.land(7, 7);
        CHECK.text(x, 0, "kind 20 lasts 1 spread 0;", 1);
        CHECK.due("promise 30: without SEEDS who begins loses", x.game(0), NONE);
        x.sow(0, 48);
        CHECK.due("promise 30: one row: all of it", x.game(0), 6);
        CHECK.due("promise 30: none is left", x.game(1), 0);
        x.sow(0, 3);
        CHECK.due("promise 30: alike rows: who begins loses", x.game(0), NONE);
        CHECK.due("promise 30: nor leaves", x.game(1), NONE);
        x.sow(0, 16);
        x.sow(0, 17);
        x.sow(0, 18);
        // 1, 3, 1: the row of three, all of it.
        CHECK.due("promise 30: the row", x.game(0), 2);
        CHECK.due("promise 30: he leaves none", x.game(1), 0);
        x.sow(0, 24);
        x.sow(0, 25);
        x.sow(0, 26);
        x.sow(0, 27);
        // 1, 3, 4, 1: 3 of the four are left.
        CHECK.due("promise 30: the row of four", x.game(0), 3);
        CHECK.due("promise 30: he leaves three", x.game(1), 3);
        x.sow(0, 8);
        x.sow(0, 9);
        x.sow(0, 10);
        x.sow(0, 11);
        x.sow(0, 12);
        x.sow(0, 13);
        // 1, 6, 3, 4, 1: all of the first row, or one of the row of three.
        CHECK.due("promise 30: of several the least row", x.game(0), 0);
        CHECK.due("promise 30: he leaves none of it", x.game(1), 0);
        CHECK.due("promise 30: another what", x.game(2), NONE);
        CHECK.due("promise 30: what -1", x.game(-1), NONE);
    }
}
