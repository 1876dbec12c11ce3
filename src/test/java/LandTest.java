/** Promises 1 to 4, 13 and 33: a new object, STATE, the land and what is at its cells. */
public final class LandTest {
    private static final Check CHECK = new Check();

    public static void main(String[] args) {
        newObject();
        stateIsTold();
        landIsTold();
        landForgetsAllButFewThings();
        cellsAreSet();
        cellsAreSeen();
        CHECK.end();
    }

    private static void newObject() {
        StormSeeds x = new StormSeeds();
        int[] due = {5, 4, 0, 1, 0, 0, 0, 0, 0, 0, 0, 0, 0, 0, 0, 0};
        for (int i = 0; i < due.length; i++) {
            CHECK.due("promises 1, 33: look(" + i + ")", x.look(i), due[i]);
        }
        CHECK.due("promise 33: look(16)", x.look(16), -1000000);
        CHECK.due("promise 33: look(-1)", x.look(-1), -1000000);
        CHECK.due("promise 33: look(least)", x.look(Integer.MIN_VALUE), -1000000);
        for (int y = 0; y < 4; y++) {
            for (int cell = 8 * y; cell < 8 * y + 5; cell++) {
                CHECK.due("promise 1: WET of " + cell, x.at(cell, 0), 3);
            }
        }
        CHECK.due("promise 1: no fault", x.fault(0), 0);
        CHECK.due("promise 1: no fault's place", x.fault(1), StormSeeds.NONE);
        CHECK.no("promise 1: nothing to undo", x.undo());
        CHECK.no("promise 1: no image", x.image(false));
        CHECK.due("NONE", StormSeeds.NONE, -1);
    }

    private static void stateIsTold() {
        StormSeeds x = new StormSeeds();
        CHECK.due("promise 2: state(7)", x.state(7), 0);
        CHECK.due("promise 2: state(least)", x.state(Integer.MIN_VALUE), 7);
        CHECK.due("promise 2: look(11)", x.look(11), Integer.MIN_VALUE);
        CHECK.due("promise 2: state(-1)", x.state(-1), Integer.MIN_VALUE);
        CHECK.due("promise 2: look(11) again", x.look(11), -1);
        x.turn(2);
        x.state(-1);
        CHECK.no("promise 31: STATE told forgets what can be undone", x.undo());
    }

    private static void landIsTold() {
        StormSeeds x = new StormSeeds();
        int[][] wrong = {{1, 4}, {8, 4}, {5, 1}, {5, 8}, {0, 0}, {-5, 4}, {5, -4}, {Integer.MAX_VALUE, 3}, {3, Integer.MIN_VALUE}};
        x.set(1, 0, 9);
        for (int[] w : wrong) {
            CHECK.no("promise 3: land(" + w[0] + ", " + w[1] + ")", x.land(w[0], w[1]));
        }
        CHECK.due("promise 3: nothing is done", x.at(0, 0), 9);
        CHECK.due("promise 3: W stays", x.look(0), 5);
        CHECK.yes("promise 3: land(2, 7)", x.land(2, 7));
        CHECK.due("promise 3: W", x.look(0), 2);
        CHECK.due("promise 3: H", x.look(1), 7);
        CHECK.due("promise 3: the last cell", x.at(49, 0), 3);
        CHECK.due("promise 3: a cell beyond x", x.at(50, 0), -2);
        CHECK.due("promise 3: a cell beyond y", x.at(56, 0), -2);
        CHECK.yes("promise 3: land(7, 2)", x.land(7, 2));
        CHECK.due("promise 3: its last cell", x.at(14, 0), 3);
        CHECK.due("promise 3: column 7 is none", x.at(7, 0), -2);
    }

    private static void landForgetsAllButFewThings() {
        StormSeeds x = new StormSeeds();
        CHECK.text(x, 0, "kind 1 lasts 9 spread 1; cross 0 with 0 to 0;", 2);
        CHECK.text(x, 1, "gust 4;", 1);
        CHECK.text(x, 2, "want calm at 0 on 3 worth 4;", 1);
        CHECK.text(x, 3, "on 3 west;", 1);
        x.set(0, 0, 5);
        x.set(2, 1, 1);
        x.sow(0, 9);
        x.state(77);
        x.days(3);
        x.turn(0);
        x.image(true);
        CHECK.fault(x, 1, "gust gust;", 1, 5);
        int state = x.look(11);
        Check.put(x, "gust 5;");
        CHECK.yes("promise 3: the same land told anew", x.land(5, 4));
        int[] due = {5, 4, 0, 1, 0, 0, 0, 0, 0, 0, 0, state, 0, 0, 0, 0};
        for (int i = 0; i < due.length; i++) {
            CHECK.due("promise 3: look(" + i + ") after land", x.look(i), due[i]);
        }
        CHECK.due("promise 3: no hedge", x.at(1, 1), 0);
        CHECK.due("promise 3: WET as at first", x.at(9, 0), 3);
        CHECK.due("promise 3: fault() stays", x.fault(0), 1);
        CHECK.due("promise 3: its place stays", x.fault(1), 5);
        CHECK.due("promise 3: the tape stays", x.text(1), 1);
        CHECK.yes("promise 3: the image stays", x.image(false));
        CHECK.due("promise 3: the image's book", x.look(10) > 0 ? 1 : 0, 1);
        CHECK.due("promise 3: the image's DAY", x.look(2), 3);
    }

    private static void cellsAreSet() {
        StormSeeds x = new StormSeeds();
        CHECK.yes("promise 4: BIRDS 0", x.set(0, -99, 0));
        CHECK.yes("promise 4: BIRDS 1000", x.set(0, 99, 1000));
        CHECK.due("promise 4: look(4)", x.look(4), 1000);
        CHECK.no("promise 4: BIRDS 1001", x.set(0, 0, 1001));
        CHECK.no("promise 4: BIRDS -1", x.set(0, 0, -1));
        CHECK.due("promise 4: BIRDS stay", x.look(4), 1000);
        CHECK.yes("promise 4: WET 0", x.set(1, 0, 0));
        CHECK.yes("promise 4: WET 9", x.set(1, 28, 9));
        CHECK.due("promise 4: WET of 0", x.at(0, 0), 0);
        CHECK.due("promise 4: WET of 28", x.at(28, 0), 9);
        CHECK.no("promise 4: WET 10", x.set(1, 0, 10));
        CHECK.no("promise 4: WET -1", x.set(1, 0, -1));
        CHECK.no("promise 4: WET of no cell", x.set(1, 5, 1));
        CHECK.no("promise 4: WET of cell -1", x.set(1, -1, 1));
        CHECK.no("promise 4: WET of cell 64", x.set(1, 64, 1));
        CHECK.yes("promise 4: HEDGE 1", x.set(2, 3, 1));
        CHECK.due("promise 4: HEDGE of 3", x.at(3, 1), 1);
        CHECK.yes("promise 4: HEDGE 1 again", x.set(2, 3, 1));
        CHECK.yes("promise 4: HEDGE 0", x.set(2, 3, 0));
        CHECK.due("promise 4: no HEDGE", x.at(3, 1), 0);
        CHECK.no("promise 4: HEDGE 2", x.set(2, 3, 2));
        CHECK.no("promise 4: HEDGE -1", x.set(2, 3, -1));
        CHECK.no("promise 4: HEDGE of no cell", x.set(2, 32, 1));
        CHECK.no("promise 4: another what", x.set(3, 0, 0));
        CHECK.no("promise 4: what -1", x.set(-1, 0, 0));
        CHECK.text(x, 0, "kind 3 lasts 1 spread 0;", 1);
        x.sow(0, 3);
        CHECK.no("promise 4: HEDGE 1 where a SEED is", x.set(2, 3, 1));
        CHECK.no("promise 4: HEDGE 0 where a SEED is", x.set(2, 3, 0));
        CHECK.due("promise 31: what can't be forgets nothing", x.look(15), 1);
        x.set(2, 4, 0);
        CHECK.due("promise 31: what is set forgets", x.look(15), 0);
    }

    private static void cellsAreSeen() {
        StormSeeds x = new StormSeeds();
        CHECK.text(x, 0, "kind 1 lasts 3 spread 0; kind 4 lasts 1 spread 0;", 2);
        CHECK.text(x, 1, "gust 5; harm storm*3+kind+soil;", 2);
        x.set(2, 8, 1);
        x.set(2, 1, 1);
        x.sow(0, 9);
        x.days(1);
        x.sow(1, 10);
        x.sow(1, 9);
        int[] seed = {2, 0, 1, 1, -1, 0, -1, 0, 2, 0};
        for (int i = 0; i < seed.length; i++) {
            CHECK.due("promise 13: at(9, " + i + ") with a seed", x.at(9, i), i == 2 ? 0 : i == 3 ? 0 : seed[i]);
        }
        x.days(1);
        CHECK.due("promise 13: KIND of its STORM", x.at(9, 4), 0);
        CHECK.due("promise 13: GUST", x.at(9, 5), 5);
        CHECK.due("promise 13: last DAY", x.at(9, 6), 3);
        CHECK.due("promise 13: no SEED is left", x.at(9, 2), -1);
        CHECK.due("promise 13: WET by GUST by 3", x.at(9, 0), 3);
        CHECK.due("promise 13: harm of its STORM", x.at(9, 9), 15);
        CHECK.due("promise 13: KIND of a SEED", x.at(10, 2), 1);
        CHECK.due("promise 13: the DAY it was sown", x.at(10, 3), 1);
        CHECK.due("promise 13: beside", x.at(10, 7), 1);
        CHECK.due("promise 13: not beside itself", x.at(9, 7), 0);
        CHECK.due("promise 13: not beside across a corner", x.at(2, 7), 0);
        CHECK.due("promise 13: hedges", x.at(9, 8), 2);
        CHECK.due("promise 13: a HEDGE", x.at(8, 1), 1);
        int[] empty = {2, 0, -1, -1, -1, 0, -1, 0, 0, 0};
        for (int i = 0; i < empty.length; i++) {
            CHECK.due("promise 13: at(28, " + i + ") of an empty one", x.at(28, i), empty[i]);
        }
        CHECK.due("promise 13: another what", x.at(9, 10), -2);
        CHECK.due("promise 13: what -1", x.at(9, -1), -2);
        CHECK.due("promise 13: no such cell", x.at(5, 0), -2);
        CHECK.due("promise 13: cell -1", x.at(-1, 0), -2);
        CHECK.due("promise 13: cell 64", x.at(64, 0), -2);
        x.set(2, 9, 0);
        x.set(2, 2, 1);
        CHECK.due("promise 13: hedges of the first cell", x.at(0, 8), 2);
        CHECK.due("promise 13: hedges of the last one", x.at(28, 8), 0);
        x.set(2, 27, 1);
        x.set(2, 20, 1);
        CHECK.due("promise 13: of the last one, then", x.at(28, 8), 2);
        CHECK.due("promise 13: not round the row's end", x.at(4, 8), 0);
        CHECK.due("promise 13: nor round its begin", x.at(16, 8), 1);
        CHECK.due("promise 33: STORMS", x.look(9), 1);
        CHECK.due("promise 33: SEEDS", x.look(8), 1);
        CHECK.due("promise 33: HARM", x.look(5), 15);
    }
}
