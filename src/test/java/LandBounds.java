/** Terms, part 1, and the promises 1 to 4, 13 and 33: the land, its cells, what is told and seen of them. */
final class LandBounds {
    private static final int LEAST = Integer.MIN_VALUE;
    private static final int MOST = Integer.MAX_VALUE;
    private static final int NONE = StormSeeds.NONE;
    private static final String TWO_KINDS = "kind 1 lasts 9 spread 0;kind 9 lasts 1 spread 0;";

    private final Bounds b;

    LandBounds(Bounds b) {
        this.b = b;
    }

    void ask() {
        newLand();
        sidesOfTheLand();
        cellsOfAllLands();
        toldAnew();
        cellsAsASet();
        wetIsSet();
        hedgesAreSet();
        birdsAreSet();
        whatIsSet();
        stateIsTold();
        windAtFirst();
        numbersOfKinds();
        crossingsOfKinds();
        whatIsAtACell();
        besideAndHedges();
        looks();
        calls();
    }

    private void newLand() {
        b.promise(1, "A land of five by four.");
        StormSeeds x = new StormSeeds();
        b.inside("look(0)", x.look(0), 5);
        b.inside("look(1)", x.look(1), 4);
        for (int cell : new int[] {0, 4, 24, 28}) {
            b.inside("at(" + cell + ", 0)", x.at(cell, 0), 3);
        }
        for (int cell : new int[] {-1, 5, 29, 32}) {
            b.beyond("at(" + cell + ", 0)", x.at(cell, 0), NONE - 1);
        }

        b.terms(1, "5 and 4 at first;");
        b.inside("W", x.look(0), 5);
        b.inside("H", x.look(1), 4);
        b.beyond("x 5", x.set(1, 5, 1));
        b.beyond("y 4", x.set(1, 32, 1));

        b.terms(1, "(0 each at first; an int)");
        b.inside("BIRDS", x.look(4), 0);
        b.inside("HARM", x.look(5), 0);
        b.beyond("BIRDS -1", x.set(0, 0, -1));

        b.terms(1, "DAY 0 .. 999 (0 at first).");
        b.inside("DAY", x.look(2), 0);
        for (int i = 0; i < 16; i++) {
            x.days(60);
        }
        x.days(39);
        b.inside("the last DAY", x.look(2), 999);
        b.beyond("DAY 1000", x.days(1), NONE);
        b.beyond("DAY stays", x.look(2), 999);

        b.terms(2, "TEXTS (empty at first).");
        StormSeeds y = new StormSeeds();
        int[] lines = {6, 7, 12, 13, 14};
        for (int what : lines) {
            b.inside("look(" + what + ")", y.look(what), 0);
        }
        b.beyond("no KIND 0", y.kind(0, 0), NONE);
        b.beyond("a KIND 0 to sow", y.sow(0, 0));
    }

    private void sidesOfTheLand() {
        for (boolean isTerm : new boolean[] {true, false}) {
            if (isTerm) {
                b.terms(1, "(W, H 2 .. 7;");
            } else {
                b.promise(3, "W, H are told: true; false, and nothing is done, if they can't be.");
            }
            for (int w = -1; w <= 9; w++) {
                for (int h = -1; h <= 9; h++) {
                    StormSeeds x = new StormSeeds();
                    boolean can = w >= 2 && w <= 7 && h >= 2 && h <= 7;
                    b.side(can, "land(" + w + ", " + h + ")", x.land(w, h) ? 1 : 0, can ? 1 : 0);
                    b.side(can, "W of it", x.look(0), can ? w : 5);
                    b.side(can, "H of it", x.look(1), can ? h : 4);
                }
            }
            for (int odd : new int[] {LEAST, LEAST + 5, MOST, 1 << 16, 256 + 5}) {
                StormSeeds x = new StormSeeds();
                b.beyond("land(" + odd + ", 4)", x.land(odd, 4));
                b.beyond("land(5, " + odd + ")", x.land(5, odd));
                b.beyond("W stays", x.look(0), 5);
                b.beyond("H stays", x.look(1), 4);
            }
        }
        StormSeeds x = new StormSeeds();
        x.set(1, 0, 9);
        x.set(0, 0, 7);
        x.turn(0);
        b.beyond("land(8, 4)", x.land(8, 4));
        b.beyond("land(5, 1)", x.land(5, 1));
        b.beyond("WET stays", x.at(0, 0), 9);
        b.beyond("BIRDS stay", x.look(4), 7);
        b.beyond("the WIND stays", x.look(3), 0);
        b.beyond("what can be undone stays", x.look(15), 1);
    }

    private void cellsOfAllLands() {
        b.terms(1, "CELLS x 0 .. W - 1, y 0 .. H - 1");
        for (int w = 2; w <= 7; w++) {
            for (int h = 2; h <= 7; h++) {
                StormSeeds x = new StormSeeds();
                x.land(w, h);
                for (int cell = -9; cell < 80; cell++) {
                    boolean is = cell >= 0 && cell % 8 < w && cell / 8 < h;
                    b.side(is, "at(" + cell + ", 0) of " + w + " by " + h, x.at(cell, 0), is ? 3 : NONE - 1);
                }
                b.beyond("at(least)", x.at(LEAST, 0), NONE - 1);
                b.beyond("at(most)", x.at(MOST, 0), NONE - 1);
            }
        }
    }

    private void toldAnew() {
        b.terms(1, "told anew: all is as at first but W, H, STATE, the TAPE, fault() and THE IMAGE");
        StormSeeds x = new StormSeeds();
        b.given(x, 0, TWO_KINDS + "cross 0 with 0 to 1;", 3);
        b.given(x, 1, "gust 4;harm 9;", 2);
        b.given(x, 2, "want 0 at 0 on 9 worth 5;", 1);
        x.set(0, 0, 1);
        x.set(2, 28, 1);
        x.set(2, 10, 1);
        x.sow(0, 0);
        x.sow(1, 1);
        x.days(2);
        b.given(x, 3, "on 9 west;", 1);
        x.turn(3);
        x.state(-77);
        x.turn(2);
        x.image(true);
        Check.put(x, "gust gust");
        b.given("a fault", x.text(1), NONE);
        Check.put(x, "harm 7;");
        b.given("land(6, 3)", x.land(6, 3) ? 1 : 0, 1);
        int[] looks = {6, 3, 0, 1, 0, 0, 0, 0, 0, 0, 0, -77, 0, 0, 0, 0};
        for (int i = 0; i < looks.length; i++) {
            b.side(i > 1 && i != 11, "look(" + i + ")", x.look(i), looks[i]);
        }
        int[] cell = {3, 0, NONE, NONE, NONE, 0, NONE, 0, 0, 0};
        for (int i = 0; i < cell.length; i++) {
            b.inside("at(0, " + i + ")", x.at(0, i), cell[i]);
            b.inside("at(1, " + i + ")", x.at(1, i), cell[i]);
            b.inside("at(10, " + i + ")", x.at(10, i), cell[i]);
        }
        b.inside("no line of THE BOOK", x.book(0, 0), NONE);
        b.inside("nothing to undo", x.undo() ? 1 : 0, 0);
        b.beyond("fault(0) stays", x.fault(0), 1);
        b.beyond("fault(1) stays", x.fault(1), 5);
        b.beyond("the TAPE stays", x.end(7) ? 1 : 0, 1);
        b.beyond("the TAPE has no more", x.end(8));
        b.beyond("the text on it", x.text(1), 1);
        b.beyond("THE IMAGE stays", x.image(false) ? 1 : 0, 1);
        b.beyond("W of THE IMAGE", x.look(0), 5);
        b.beyond("KINDS of THE IMAGE", x.look(6), 2);
        b.beyond("the STORM of THE IMAGE", x.at(0, 4), 0);
        b.beyond("the HEDGE of THE IMAGE", x.at(28, 1), 1);
    }

    private void cellsAsASet() {
        b.terms(1, "as a set CELL c counts 2 to the c (a long).");
        for (int cell : new int[] {0, 6, 8, 27, 30, 32, 38, 48, 54}) {
            StormSeeds x = new StormSeeds();
            x.land(7, 7);
            b.given(x, 0, "kind 1 lasts 1 spread 0;", 1);
            x.sow(0, cell);
            b.inside("blows(2) with a STORM at " + cell, x.blows(2), 1L << cell);
            b.inside("weeds(.., 1) of " + cell, x.weeds(1L << cell, 2, 1), 1L << cell);
        }
        StormSeeds x = new StormSeeds();
        x.land(7, 7);
        b.inside("weeds of all CELLS", x.weeds(0x7F7F7F7F7F7F7FL, 60, 1), 0);
        for (int cell : new int[] {7, 15, 31, 47, 55, 56, 62, 63}) {
            b.beyond("weeds of no CELL, " + cell, x.weeds(1L << cell, 1, 0), NONE);
            b.beyond("weeds of all CELLS and " + cell, x.weeds(0x7F7F7F7F7F7F7FL | 1L << cell, 1, 1), NONE);
        }
    }

    private void wetIsSet() {
        for (boolean isTerm : new boolean[] {true, false}) {
            if (isTerm) {
                b.terms(1, "WET 0 .. 9 (3 at first)");
            } else {
                b.promise(4, "1 WET of a CELL");
            }
            StormSeeds x = new StormSeeds();
            b.inside("WET at first", x.at(9, 0), 3);
            for (int wet = 0; wet <= 9; wet++) {
                b.inside("set(1, 9, " + wet + ")", x.set(1, 9, wet));
                b.inside("WET " + wet, x.at(9, 0), wet);
            }
            for (int wet : new int[] {-1, 10, LEAST, MOST, 256}) {
                b.beyond("set(1, 9, " + wet + ")", x.set(1, 9, wet));
                b.beyond("WET stays", x.at(9, 0), 9);
            }
            for (int cell : new int[] {0, 4, 24, 28}) {
                b.inside("set(1, " + cell + ", 5)", x.set(1, cell, 5));
                b.inside("WET of " + cell, x.at(cell, 0), 5);
            }
            for (int cell : new int[] {-1, 5, 7, 29, 32, 63, 64, 73, LEAST, MOST}) {
                b.beyond("set(1, " + cell + ", 5)", x.set(1, cell, 5));
            }
        }
    }

    private void hedgesAreSet() {
        b.promise(4, "2 HEDGE 0, 1 (where no SEED is): true; false if it can't be, or another what.");
        StormSeeds x = new StormSeeds();
        b.given(x, 0, TWO_KINDS, 2);
        for (int cell : new int[] {0, 4, 24, 28}) {
            for (int v : new int[] {0, 1, 1, 0, 0, 1}) {
                b.inside("set(2, " + cell + ", " + v + ")", x.set(2, cell, v));
                b.inside("HEDGE of " + cell, x.at(cell, 1), v);
            }
        }
        for (int v : new int[] {-1, 2, LEAST, MOST}) {
            b.beyond("set(2, 0, " + v + ")", x.set(2, 0, v));
            b.beyond("HEDGE of 0 stays", x.at(0, 1), 1);
        }
        for (int cell : new int[] {-1, 5, 7, 29, 32, 64, LEAST, MOST}) {
            b.beyond("set(2, " + cell + ", 1)", x.set(2, cell, 1));
            b.beyond("set(2, " + cell + ", 0)", x.set(2, cell, 0));
        }
        x.sow(1, 9);
        for (int v = 0; v < 2; v++) {
            b.beyond("set(2, 9, " + v + ") where a SEED is", x.set(2, 9, v));
            b.beyond("HEDGE of 9", x.at(9, 1), 0);
            b.inside("set(2, 10, " + v + ") beside it", x.set(2, 10, v));
        }
        x.weed(9);
        b.inside("set(2, 9, 1) where the SEED was", x.set(2, 9, 1));
        x.sow(0, 2);
        x.days(2);
        b.given("a STORM", x.at(2, 4), 0);
        b.inside("set(2, 2, 1) where a STORM is", x.set(2, 2, 1));
        b.inside("HEDGE of 2", x.at(2, 1), 1);
        b.inside("the STORM stays", x.at(2, 4), 0);
    }

    private void birdsAreSet() {
        for (boolean isTerm : new boolean[] {true, false}) {
            if (isTerm) {
                b.terms(1, "BIRDS 0 .. 1000");
            } else {
                b.promise(4, "What 0 BIRDS (cell not asked)");
            }
            StormSeeds x = new StormSeeds();
            for (int cell : new int[] {0, -1, 5, 64, LEAST, MOST}) {
                b.inside("set(0, " + cell + ", 1000)", x.set(0, cell, 1000));
                b.inside("BIRDS", x.look(4), 1000);
                b.inside("set(0, " + cell + ", 0)", x.set(0, cell, 0));
                b.inside("BIRDS", x.look(4), 0);
                b.inside("set(0, " + cell + ", 999)", x.set(0, cell, 999));
                for (int v : new int[] {-1, 1001, LEAST, MOST}) {
                    b.beyond("set(0, " + cell + ", " + v + ")", x.set(0, cell, v));
                    b.beyond("BIRDS stay", x.look(4), 999);
                }
            }
        }
    }

    private void whatIsSet() {
        b.promise(4, "true; false if it can't be, or another what.");
        StormSeeds x = new StormSeeds();
        for (int what = 0; what <= 2; what++) {
            b.inside("set(" + what + ", 0, 1)", x.set(what, 0, 1));
        }
        for (int what : new int[] {-1, 3, 4, LEAST, MOST}) {
            b.beyond("set(" + what + ", 0, 0)", x.set(what, 0, 0));
        }
        b.beyond("BIRDS stay", x.look(4), 1);
        b.beyond("WET stays", x.at(0, 0), 1);
        b.beyond("HEDGE stays", x.at(0, 1), 1);
    }

    private void stateIsTold() {
        b.promise(2, "STATE is told: what it was.");
        StormSeeds x = new StormSeeds();
        int was = 0;
        for (int v : new int[] {1, -1, LEAST, MOST, NONE - 999999, 0}) {
            b.inside("state(" + v + ")", x.state(v), was);
            b.inside("look(11)", x.look(11), v);
            was = v;
        }
        // No int is beyond it; what is at first and what is told anew are its ends.
        b.beyond("look(11) of another object", new StormSeeds().look(11), 0);

        b.terms(0, "STATE of draws (an int, 0 at first);");
        StormSeeds y = new StormSeeds();
        b.inside("at first", y.look(11), 0);
        b.inside("state(most)", y.state(MOST), 0);
        y.land(2, 2);
        b.beyond("the land told anew", y.look(11), MOST);
    }

    private void windAtFirst() {
        b.terms(1, "WIND: 0 north (y less), 1 east (x more), 2 south, 3 west (1 at first).");
        b.inside("at first", new StormSeeds().look(3), 1);
        int[] next = {20, 29, 36, 27};
        int[] prior = {36, 27, 20, 29};
        for (int wind = 0; wind < 4; wind++) {
            StormSeeds x = new StormSeeds();
            x.land(7, 7);
            b.given(x, 0, "kind 1 lasts 1 spread 1;", 1);
            b.inside("turn(" + wind + ")", x.turn(wind) ? 1 : 0, wind == 1 ? 0 : 1);
            x.sow(0, 28);
            x.days(2);
            b.inside("down the WIND " + wind, x.at(next[wind], 2), 0);
            b.beyond("up the WIND " + wind, x.at(prior[wind], 2), NONE);
        }
        StormSeeds x = new StormSeeds();
        for (int wind : new int[] {-1, 4, LEAST, MOST}) {
            b.beyond("turn(" + wind + ")", x.turn(wind));
        }
    }

    private void numbersOfKinds() {
        b.terms(1, "KINDS 0 .. 7: SOIL 1 .. 20 days, LASTS 1 .. 9, SPREAD 0 .. 6;");
        StormSeeds x = new StormSeeds();
        b.told(x, 0, "kind 1 lasts 1 spread 0;".repeat(7) + "kind 20 lasts 9 spread 6;", 8);
        b.inside("SOIL of KIND 0", x.kind(0, 0), 1);
        b.inside("LASTS of KIND 0", x.kind(0, 1), 1);
        b.inside("SPREAD of KIND 0", x.kind(0, 2), 0);
        b.inside("SOIL of KIND 7", x.kind(7, 0), 20);
        b.inside("LASTS of KIND 7", x.kind(7, 1), 9);
        b.inside("SPREAD of KIND 7", x.kind(7, 2), 6);
        b.inside("sow(7, 0)", x.sow(7, 0));
        b.beyond("KIND 8", x.kind(8, 0), NONE);
        b.beyond("KIND -1", x.kind(-1, 0), NONE);
        b.beyond("sow(8, 1)", x.sow(8, 1));
        b.refused(x, 0, "kind 1 lasts 1 spread 0;".repeat(9), 3, 192);
        b.refused(x, 0, "kind 0 lasts 1 spread 0;", 2, 5);
        b.refused(x, 0, "kind 21 lasts 1 spread 0;", 2, 5);
        b.refused(x, 0, "kind 1 lasts 0 spread 0;", 2, 13);
        b.refused(x, 0, "kind 1 lasts 10 spread 0;", 2, 13);
        b.refused(x, 0, "kind 1 lasts 1 spread 7;", 2, 22);
        b.beyond("the KINDS stay", x.look(6), 8);
    }

    private void crossingsOfKinds() {
        b.terms(1, "CROSSINGS, 10 at most: of two KINDS (alike, too; in whatever order) a third.");
        StormSeeds x = new StormSeeds();
        String kinds = "kind 1 lasts 1 spread 0;".repeat(4);
        b.told(x, 0, kinds + "cross 0 with 0 to 1;cross 0 with 1 to 2;cross 2 with 1 to 3;cross 3 with 3 to 3;" + "cross 2 with 2 to 0;".repeat(6), 14);
        b.inside("CROSSINGS", x.look(7), 10);
        b.inside("alike ones", x.cross(0, 0), 1);
        b.inside("in its order", x.cross(0, 1), 2);
        b.inside("in the other order", x.cross(1, 0), 2);
        b.inside("the other one's order", x.cross(1, 2), 3);
        b.inside("to one of both", x.cross(3, 3), 3);
        b.inside("the last one told", x.cross(2, 2), 0);
        b.beyond("of which none is told", x.cross(1, 1), NONE);
        b.beyond("nor of these", x.cross(0, 3), NONE);
        b.refused(x, 0, kinds + "cross 0 with 0 to 1;".repeat(11), 3, 296);
        b.beyond("the CROSSINGS stay", x.look(7), 10);
    }

    private void whatIsAtACell() {
        b.promise(13, "NONE - 1 if there is none such, or another what.");
        StormSeeds x = new StormSeeds();
        for (int what = 0; what <= 9; what++) {
            int due = what == 0 ? 3 : what == 2 || what == 3 || what == 4 || what == 6 ? NONE : 0;
            for (int cell : new int[] {0, 4, 24, 28}) {
                b.inside("at(" + cell + ", " + what + ")", x.at(cell, what), due);
            }
            for (int cell : new int[] {-1, 5, 7, 29, 32, 63, 64, LEAST, MOST}) {
                b.beyond("at(" + cell + ", " + what + ")", x.at(cell, what), NONE - 1);
            }
        }
        for (int what : new int[] {-1, 10, LEAST, MOST}) {
            b.beyond("at(0, " + what + ")", x.at(0, what), NONE - 1);
            b.beyond("at(5, " + what + ")", x.at(5, what), NONE - 1);
        }

        b.promise(13, "2 KIND of its SEED (NONE), 3 the DAY it was sown (NONE), 4 KIND of its STORM (NONE), 5 GUST (0), 6 its last DAY (NONE)");
        StormSeeds y = new StormSeeds();
        b.given(y, 0, TWO_KINDS, 2);
        b.given(y, 1, "gust 6;harm 1+kind;", 2);
        y.days(3);
        y.sow(1, 9);
        y.sow(0, 10);
        int[] seed = {1, 3, NONE, 0, NONE};
        int[] none = {NONE, NONE, NONE, 0, NONE};
        int[] storm = {NONE, NONE, 0, 6, 12};
        for (int i = 0; i < 5; i++) {
            b.inside("a SEED: at(9, " + (2 + i) + ")", y.at(9, 2 + i), seed[i]);
            b.beyond("neither: at(11, " + (2 + i) + ")", y.at(11, 2 + i), none[i]);
        }
        y.days(2);
        for (int i = 0; i < 5; i++) {
            b.inside("a STORM: at(10, " + (2 + i) + ")", y.at(10, 2 + i), storm[i]);
        }
        y.sow(1, 10);
        b.inside("both: the SEED", y.at(10, 2), 1);
        b.inside("both: the STORM", y.at(10, 4), 0);
        y.days(7);
        b.inside("its last DAY", y.at(10, 6), 12);
        y.days(1);
        for (int i = 2; i < 5; i++) {
            b.beyond("behind its last DAY: at(10, " + (2 + i) + ")", y.at(10, 2 + i), none[i]);
        }

        b.promise(13, "9 harm of its STORM (0).");
        StormSeeds z = new StormSeeds();
        b.given(z, 0, TWO_KINDS, 2);
        b.given(z, 1, "harm 7;", 1);
        z.sow(0, 0);
        b.beyond("a SEED alone", z.at(0, 9), 0);
        b.beyond("nothing there", z.at(1, 9), 0);
        z.days(2);
        b.inside("a STORM", z.at(0, 9), 7);
        z.days(8);
        b.beyond("the STORM is gone", z.at(0, 9), 0);
    }

    private void besideAndHedges() {
        b.promise(13, "7 beside, 8 hedges");
        // In a land of seven by seven cell 28 has four beside it, a corner two, a side three.
        int[][] beside = {{28, 20, 29, 36, 27}, {0, 1, 8}, {6, 5, 14}, {48, 40, 49}, {54, 46, 53}, {24, 16, 25, 32}, {30, 22, 29, 38}, {3, 2, 4, 11}, {51, 50, 52, 43}};
        for (int[] cells : beside) {
            StormSeeds x = new StormSeeds();
            x.land(7, 7);
            b.given(x, 0, "kind 1 lasts 9 spread 0;", 1);
            for (int i = 1; i < cells.length; i++) {
                x.set(2, cells[i], 1);
                b.inside("hedges of " + cells[0], x.at(cells[0], 8), i);
                b.beyond("beside, of HEDGES alone", x.at(cells[0], 7), 0);
            }
            for (int i = 1; i < cells.length; i++) {
                x.set(2, cells[i], 0);
                x.sow(0, cells[i]);
            }
            b.beyond("beside, of SEEDS", x.at(cells[0], 7), 0);
            x.days(2);
            b.inside("beside " + cells[0], x.at(cells[0], 7), cells.length - 1);
            b.beyond("hedges, of STORMS alone", x.at(cells[0], 8), 0);
        }
        StormSeeds x = new StormSeeds();
        x.land(7, 7);
        for (int y = 0; y < 7; y++) {
            for (int column = 0; column < 7; column++) {
                int cell = 8 * y + column;
                boolean isFar = Math.abs(y - 3) + Math.abs(column - 3) != 1;
                if (isFar) {
                    x.set(2, cell, 1);
                }
            }
        }
        b.beyond("hedges of 27, with all HEDGES but those beside", x.at(27, 8), 0);
        StormSeeds z = new StormSeeds();
        z.land(7, 7);
        z.set(2, 8, 1);
        b.beyond("the next row's first CELL is not beside the last one", z.at(6, 8), 0);
        z.set(2, 22, 1);
        b.beyond("nor the last one beside the next row's first", z.at(24, 8), 0);
        z.set(2, 48, 1);
        b.beyond("nor the last row beside the first", z.at(0, 8), 1);
    }

    private void looks() {
        b.promise(33, "NONE - 999999 for another what. (STATE, HARM as they are.)");
        StormSeeds x = new StormSeeds();
        int[] due = {5, 4, 0, 1, 0, 0, 0, 0, 0, 0, 0, 0, 0, 0, 0, 0};
        for (int what = 0; what < due.length; what++) {
            b.inside("look(" + what + ")", x.look(what), due[what]);
        }
        for (int what : new int[] {-1, 16, 17, LEAST, MOST}) {
            b.beyond("look(" + what + ")", x.look(what), -1000000);
        }
        x.state(-1000000);
        b.inside("a STATE like it", x.look(11), -1000000);
        x.state(LEAST);
        b.inside("the least STATE", x.look(11), LEAST);

        b.promise(33, "6 KINDS, 7 CROSSINGS, 8 SEEDS, 9 STORMS, 10 lines of THE BOOK");
        StormSeeds y = new StormSeeds();
        y.land(7, 7);
        b.given(y, 0, "kind 1 lasts 9 spread 0;".repeat(8) + "cross 0 with 0 to 0;".repeat(10), 18);
        for (int column = 0; column < 7; column++) {
            for (int row = 0; row < 7; row++) {
                y.sow(column, 8 * row + column);
            }
        }
        b.inside("KINDS", y.look(6), 8);
        b.inside("CROSSINGS", y.look(7), 10);
        b.inside("SEEDS on the whole land", y.look(8), 49);
        b.inside("SEEDS of a KIND", y.kind(6, 3), 7);
        b.inside("lines", y.look(10), 49);
        y.days(2);
        b.inside("STORMS on the whole land", y.look(9), 49);
        b.inside("STORMS of a KIND", y.kind(0, 4), 7);
        b.beyond("no SEEDS then", y.look(8), 0);
        b.beyond("no SEEDS of a KIND", y.kind(6, 3), 0);
        b.beyond("no STORMS of a KIND that is not there", y.kind(7, 4), 0);
    }

    private void calls() {
        b.terms(0, "An object is used for at most 512 calls after it has been made; what later calls answer is free.");
        StormSeeds x = new StormSeeds();
        Check.put(x, TWO_KINDS);
        b.given("text(0)", x.text(0), 2);
        // Three feeds, one end and one text are behind it.
        for (int call = 6; call < 512; call++) {
            boolean isSown = call % 2 == 0;
            b.inside("call " + call, isSown ? x.sow(0, 28) : x.weed(28));
        }
        b.inside("call 512", x.sow(0, 28));
        // The next one may answer anything, but it ends; another object begins anew.
        x.look(8);
        b.beyond("another object", new StormSeeds().look(8), 0);
    }
}
