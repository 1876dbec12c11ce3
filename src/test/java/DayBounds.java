/** Terms, part 3, and the promises 9 to 12 and 17: a DAY, what is done in it, THE BOOK. */
final class DayBounds {
    private static final int LEAST = Integer.MIN_VALUE;
    private static final int MOST = Integer.MAX_VALUE;
    private static final int NONE = StormSeeds.NONE;
    private static final String LONG_KIND = "kind 20 lasts 9 spread 0;";

    private final Bounds b;

    DayBounds(Bounds b) {
        this.b = b;
    }

    void ask() {
        planOfThisDay();
        planLines();
        soil();
        gustOfNothing();
        lastDay();
        crossings();
        strongerStays();
        wetOfStorms();
        wetDries();
        harmIsAskedAhead();
        stormIsGone();
        spread();
        spreadToTheEnd();
        spreadToAHedge();
        spreadOverOthers();
        draws();
        birds();
        birdsCellAndKind();
        birdsNowhere();
        dayIsOneMore();
        days();
        daysUp();
        sowing();
        weeding();
        turning();
        bookIsFull();
        bookLines();
        bookWhat();
    }

    private StormSeeds land(int w, int h, String kinds) {
        StormSeeds x = new StormSeeds();
        b.given("land(" + w + ", " + h + ")", x.land(w, h) ? 1 : 0, 1);
        tell(x, 0, kinds);
        return x;
    }

    private void tell(StormSeeds x, int k, String text) {
        Check.put(x, text);
        b.given("text(" + k + ") of " + text, x.text(k) >= 0 ? 1 : 0, 1);
    }

    private void planOfThisDay() {
        b.terms(3, "(a) Line by line of A PLAN for this DAY: what can be done.");
        for (int day : new int[] {0, 1, 2, 59, 60, 998}) {
            StormSeeds x = land(5, 4, LONG_KIND);
            tell(x, 3, "on " + day + " sow 0 at 28;on " + day + " north;");
            int gone = 0;
            for (; gone + 60 <= day; gone += 60) {
                x.days(60);
            }
            if (gone < day) {
                x.days(day - gone);
            }
            b.beyond("ahead of DAY " + day, x.at(28, 2), NONE);
            b.beyond("the WIND ahead of it", x.look(3), 1);
            x.days(1);
            b.inside("behind DAY " + day, x.at(28, 2), 0);
            b.inside("sown that DAY", x.at(28, 3), day);
            b.inside("the WIND", x.look(3), 0);
            if (day < 998) {
                x.weed(28);
                x.turn(1);
                x.days(1);
                b.beyond("the DAY behind it", x.at(28, 2), NONE);
                b.beyond("the WIND behind it", x.look(3), 1);
            }
        }
        // DAY 999 never goes by, but in thought it does.
        StormSeeds x = land(5, 4, "kind 1 lasts 9 spread 0;");
        tell(x, 3, "on 999 weed 28;");
        tell(x, 2, "want calm at 28 on 999 worth 1;");
        for (int i = 0; i < 16; i++) {
            x.days(60);
        }
        x.days(38);
        x.sow(0, 28);
        b.inside("the last DAY's line in thought", x.meets(0), 1);
        tell(x, 3, "on 998 east;");
        b.beyond("without it", x.meets(0), 0);
    }

    private void planLines() {
        b.terms(3, "what can be done.");
        StormSeeds x = land(5, 4, LONG_KIND + LONG_KIND);
        x.set(2, 1, 1);
        x.sow(0, 0);
        tell(x, 3, "on 0 sow 1 at 0;on 0 sow 1 at 1;on 0 weed 2;on 0 east;on 0 sow 1 at 3;on 0 weed 3;on 0 sow 0 at 3;"
                + "on 0 weed 0;on 0 sow 1 at 0;on 0 west;on 0 west;on 0 south;on 0 sow 1 at 4;on 0 weed 4;on 0 weed 4;on 0 north;");
        b.given("lines", x.look(14), 16);
        x.days(1);
        int[][] book = {{0, 0, 0}, {0, 3, 1}, {1, 3, 1}, {0, 3, 0}, {1, 0, 0}, {0, 0, 1}, {0, 4, 1}, {1, 4, 1}};
        for (int i = 0; i < book.length; i++) {
            for (int k = 0; k < 3; k++) {
                b.inside("book(" + i + ", " + (k + 1) + ")", x.book(i, k + 1), book[i][k]);
            }
        }
        b.beyond("no line of what can't be done", x.look(10), book.length);
        b.inside("the latest WIND", x.look(3), 0);
        b.beyond("no SEED at the HEDGE", x.at(1, 2), NONE);
        String[] winds = {"north", "east", "south", "west"};
        for (int from = 0; from < 4; from++) {
            for (int to = 0; to < 4; to++) {
                StormSeeds y = new StormSeeds();
                y.turn(from);
                tell(y, 3, "on 0 " + winds[to] + ";");
                y.days(1);
                b.side(from != to, winds[to] + " from " + from, y.look(3), to);
            }
        }
    }

    private void soil() {
        b.terms(3, "(b) CELL by CELL (row by row) whose SEED has lain there its SOIL (DAY less that it was sown) or more:");
        for (int soil = 1; soil <= 20; soil++) {
            for (int day : new int[] {0, 7}) {
                StormSeeds x = land(5, 4, "kind " + soil + " lasts 9 spread 0;");
                if (day > 0) {
                    x.days(day);
                }
                x.sow(0, 28);
                b.beyond("STORMS up to " + (soil - 1) + " DAYS", x.days(soil), 0);
                b.beyond("the SEED lies yet", x.at(28, 2), 0);
                b.inside("the STORM of " + soil + " DAYS", x.days(1), 1);
                b.inside("the SEED is gone", x.at(28, 2), NONE);
                b.inside("the STORM is there", x.at(28, 4), 0);
            }
        }

        b.terms(3, "CELL by CELL (row by row)");
        StormSeeds x = land(7, 7, "kind 1 lasts 9 spread 0;");
        int[] cells = {54, 0, 6, 8, 48, 9};
        for (int cell : cells) {
            x.sow(0, cell);
        }
        x.days(2);
        int[] rows = {0, 6, 8, 9, 48, 54};
        for (int i = 0; i < 6; i++) {
            b.inside("came up, " + i, x.book(6 + i, 2), rows[i]);
        }
        b.beyond("no more lines", x.book(12, 2), NONE);
    }

    private void gustOfNothing() {
        b.terms(3, "0: nothing more.");
        for (int gust = 0; gust <= 1; gust++) {
            StormSeeds x = land(5, 4, "kind 1 lasts 9 spread 4;kind 1 lasts 9 spread 4;cross 0 with 1 to 1;");
            tell(x, 1, "gust 5 when day=1;gust " + gust + ";");
            x.sow(0, 0);
            x.days(2);
            x.sow(0, 9);
            x.sow(1, 0);
            b.side(gust == 1, "STORMS", x.days(2), 2 * gust);
            b.inside("the SEED is gone", x.at(9, 2), NONE);
            b.side(gust == 1, "KIND of a STORM", x.at(9, 4), gust == 1 ? 0 : NONE);
            b.side(gust == 1, "KIND of the STORM that was there", x.at(0, 4), gust == 1 ? 1 : 0);
            b.side(gust == 1, "its GUST", x.at(0, 5), gust == 1 ? 6 : 5);
            b.side(gust == 1, "what, in THE BOOK", x.book(4, 1), gust == 1 ? 2 : 3);
            b.side(gust == 1, "HARM", x.look(5), gust == 1 ? 5 + 5 + 7 : 15);
        }
    }

    private void lastDay() {
        b.terms(3, "Without a STORM there: a STORM of it, its last DAY is DAY and LASTS less 1.");
        for (int lasts = 1; lasts <= 9; lasts++) {
            StormSeeds x = land(5, 4, "kind 1 lasts " + lasts + " spread 0;");
            x.sow(0, 9);
            x.days(1);
            b.inside("blows on its last DAY", x.blows(1 + lasts - 1), 1 << 9);
            b.beyond("and no more", x.blows(1 + lasts), 0);
            b.inside("STORMS", x.days(1), 1);
            if (lasts > 1) {
                b.inside("its last DAY", x.at(9, 6), lasts);
                if (lasts > 2) {
                    x.days(lasts - 2);
                    b.inside("the STORM on its last DAY", x.at(9, 4), 0);
                }
                x.days(1);
            }
            b.beyond("behind its last DAY", x.at(9, 4), NONE);
            b.beyond("DAY", x.look(2), lasts + 1);
            // Its last DAY stands in THE BOOK.
            b.inside("gone on DAY", x.book(2, 0), lasts);
        }
    }

    private void crossings() {
        b.terms(3, "if both KINDS have a CROSSING (the first one), it is of that KIND, its GUST the greater of both and 1 more (9 at most), its last DAY DAY and LASTS of that KIND less 1;");
        for (int old = 1; old <= 9; old++) {
            for (int now = 1; now <= 9; now++) {
                StormSeeds x = land(5, 4, "kind 1 lasts 9 spread 0;kind 1 lasts 9 spread 0;kind 9 lasts 6 spread 0;cross 1 with 0 to 2;cross 0 with 1 to 0;cross 0 with 0 to 1;");
                tell(x, 1, "gust " + old + " when kind=0;gust " + now + ";");
                x.sow(0, 9);
                x.days(2);
                x.sow(1, 9);
                x.days(1);
                int most = Math.max(old, now);
                b.side(most < 9, "STORMS of " + old + " and " + now, x.days(1), 1);
                b.side(most < 9, "GUST of " + old + " and " + now, x.at(9, 5), most < 9 ? most + 1 : 9);
                b.side(most < 9, "KIND of it", x.at(9, 4), 2);
                b.side(most < 9, "its last DAY", x.at(9, 6), 3 + 6 - 1);
            }
        }
        // LASTS 1 of the crossed KIND: it is gone at the end of that DAY.
        StormSeeds x = land(5, 4, "kind 1 lasts 9 spread 0;kind 1 lasts 1 spread 2;cross 0 with 0 to 1;");
        x.sow(0, 9);
        x.days(2);
        x.sow(0, 9);
        b.inside("two DAYS", x.days(2), 1);
        b.beyond("gone that DAY", x.at(9, 4), NONE);
        b.inside("it spreads as its KIND does", x.at(11, 2), 1);
        b.beyond("so far alone", x.at(12, 2), NONE);
    }

    private void strongerStays() {
        b.terms(3, "else the one with the greater GUST stays (of alike ones the new one).");
        for (int old = 1; old <= 9; old++) {
            for (int now = Math.max(1, old - 1); now <= Math.min(9, old + 1); now++) {
                StormSeeds x = land(5, 4, "kind 1 lasts 9 spread 0;kind 1 lasts 5 spread 0;cross 0 with 0 to 1;cross 1 with 1 to 0;");
                tell(x, 1, "gust " + old + " when kind=0;gust " + now + ";");
                x.sow(0, 9);
                x.days(2);
                x.sow(1, 9);
                x.days(1);
                boolean isNew = now >= old;
                b.side(isNew, "STORMS of " + old + ", then " + now, x.days(1), isNew ? 1 : 0);
                b.side(isNew, "KIND of " + old + ", then " + now, x.at(9, 4), isNew ? 1 : 0);
                b.side(isNew, "its GUST", x.at(9, 5), Math.max(now, old));
                b.side(isNew, "its last DAY", x.at(9, 6), isNew ? 3 + 5 - 1 : 1 + 9 - 1);
                b.side(isNew, "what, in THE BOOK", x.book(3, 1), isNew ? 2 : 3);
                b.side(isNew, "the KIND of it", x.book(3, 3), 1);
                b.inside("the SEED is gone", x.at(9, 2), NONE);
            }
        }
    }

    private void wetOfStorms() {
        b.terms(3, "then of each WET is GUST by 3 (1 at least) more (9 at most);");
        int[] more = {0, 1, 1, 1, 1, 1, 2, 2, 2, 3};
        for (int gust = 1; gust <= 9; gust++) {
            for (int wet = 0; wet <= 9; wet++) {
                StormSeeds x = land(5, 4, "kind 1 lasts 9 spread 0;");
                tell(x, 1, "gust " + gust + ";");
                x.sow(0, 9);
                x.days(2);
                x.set(1, 9, wet);
                x.days(1);
                boolean isMost = wet + more[gust] > 9;
                b.side(!isMost, "WET " + wet + " under GUST " + gust, x.at(9, 0), isMost ? 9 : wet + more[gust]);
            }
        }
    }

    private void wetDries() {
        b.terms(3, "of each CELL without a STORM, if DAY is even, 1 less (0 at least).");
        for (int day : new int[] {0, 1, 2, 3, 997, 998}) {
            StormSeeds x = new StormSeeds();
            for (int gone = 0; gone < day; gone += Math.min(60, day - gone)) {
                x.days(Math.min(60, day - gone));
            }
            for (int wet = 0; wet <= 9; wet++) {
                x.set(1, wet < 5 ? wet : wet - 5 + 24, wet);
            }
            x.days(1);
            for (int wet = 0; wet <= 9; wet++) {
                boolean isDry = day % 2 == 0;
                b.side(isDry && wet > 0, "WET " + wet + " on DAY " + day, x.at(wet < 5 ? wet : wet - 5 + 24, 0), isDry ? Math.max(0, wet - 1) : wet);
            }
        }
        StormSeeds x = new StormSeeds();
        x.days(5);
        b.inside("three even DAYS", x.at(0, 0), 0);
        x.days(60);
        b.beyond("never below 0", x.at(0, 0), 0);
    }

    private void harmIsAskedAhead() {
        b.terms(3, "HARM is its harm more, all asked ahead of it;");
        StormSeeds x = land(5, 4, "kind 1 lasts 9 spread 0;");
        tell(x, 1, "gust 9;harm wet*10+beside;");
        x.set(1, 0, 1);
        x.set(1, 1, 2);
        x.days(1);
        x.sow(0, 0);
        x.sow(0, 1);
        x.days(2);
        b.inside("HARM with the WET ahead of it", x.look(5), 1 + 11);
        b.beyond("WET behind it", x.at(0, 0), 3);
        x.days(1);
        b.inside("HARM of the next DAY", x.look(5), 12 + 31 + 41);
        b.beyond("harm after it", x.at(0, 9), 61);
    }

    private void stormIsGone() {
        b.terms(3, "(d) CELL by CELL whose STORM has its last DAY (or it is behind): it is gone and SPREADS:");
        for (int lasts = 1; lasts <= 9; lasts++) {
            StormSeeds x = land(5, 4, "kind 1 lasts " + lasts + " spread 1;");
            x.sow(0, 9);
            x.days(1);
            if (lasts > 1) {
                x.days(lasts - 1);
                b.beyond("ahead of its last DAY", x.at(9, 4), 0);
                b.beyond("nothing fell", x.look(8), 0);
            }
            x.days(1);
            b.inside("behind its last DAY", x.at(9, 4), NONE);
            b.inside("a SEED fell", x.at(10, 2), 0);
            b.inside("sown this DAY", x.at(10, 3), lasts);
        }
        StormSeeds x = land(7, 7, "kind 1 lasts 1 spread 0;");
        for (int cell : new int[] {54, 48, 0, 6, 27}) {
            x.sow(0, cell);
        }
        x.days(2);
        b.inside("all of one DAY are gone", x.look(9), 0);
        int[] rows = {0, 6, 27, 48, 54};
        for (int i = 0; i < rows.length; i++) {
            b.inside("gone, " + i, x.book(10 + i, 2), rows[i]);
            b.inside("what", x.book(10 + i, 1), 4);
        }
        b.beyond("no more lines", x.book(15, 2), NONE);
    }

    private void spread() {
        b.terms(3, "to the CELLS in a row down the WIND, as many as SPREAD tells, up to the end or to a HEDGE (that one not):");
        int[] from = {48, 0, 0, 6};
        int[] step = {-8, 1, 8, -1};
        for (int wind = 0; wind < 4; wind++) {
            for (int spread = 0; spread <= 6; spread++) {
                StormSeeds x = land(7, 7, "kind 1 lasts 1 spread " + spread + ";");
                x.turn(wind);
                x.sow(0, from[wind]);
                x.days(2);
                for (int i = 1; i <= 6; i++) {
                    b.side(i <= spread, "WIND " + wind + ", SPREAD " + spread + ", CELL " + i, x.at(from[wind] + i * step[wind], 2), i <= spread ? 0 : NONE);
                }
                b.beyond("SEEDS in all", x.look(8), spread);
            }
        }
    }

    private void spreadToTheEnd() {
        b.terms(3, "up to the end");
        int[] stepX = {0, 1, 0, -1};
        int[] stepY = {-1, 0, 1, 0};
        for (int w = 2; w <= 7; w++) {
            for (int h = 2; h <= 7; h++) {
                for (int wind = 0; wind < 4; wind++) {
                    // From the second cell ahead of the end one falls, from the end none.
                    int endX = wind == 1 ? w - 1 : 0;
                    int endY = wind == 2 ? h - 1 : 0;
                    StormSeeds x = land(w, h, "kind 1 lasts 1 spread 6;");
                    x.turn(wind);
                    x.sow(0, 8 * endY + endX);
                    x.days(2);
                    b.beyond("at the end, WIND " + wind + " in " + w + " by " + h, x.look(8), 0);
                    StormSeeds y = land(w, h, "kind 1 lasts 1 spread 6;");
                    y.turn(wind);
                    y.sow(0, 8 * (endY - stepY[wind]) + endX - stepX[wind]);
                    y.days(2);
                    b.inside("one ahead of it", y.look(8), 1);
                    b.inside("its CELL", y.at(8 * endY + endX, 2), 0);
                }
            }
        }
    }

    private void spreadToAHedge() {
        b.terms(3, "or to a HEDGE (that one not):");
        for (int hedge = 1; hedge <= 6; hedge++) {
            StormSeeds x = land(7, 2, "kind 1 lasts 1 spread 6;");
            x.set(2, hedge, 1);
            x.sow(0, 0);
            x.days(2);
            for (int cell = 1; cell <= 6; cell++) {
                b.side(cell < hedge, "CELL " + cell + ", HEDGE " + hedge, x.at(cell, 2), cell < hedge ? 0 : NONE);
            }
        }
        // A HEDGE where the STORM itself is does not stop it.
        StormSeeds x = land(7, 2, "kind 1 lasts 2 spread 6;");
        x.sow(0, 0);
        x.days(2);
        x.set(2, 0, 1);
        x.days(1);
        b.inside("from a HEDGE", x.look(8), 6);
        b.beyond("none at it", x.at(0, 2), NONE);
    }

    private void spreadOverOthers() {
        b.terms(3, "where there is no SEED and no STORM a SEED of its KIND falls, sown this DAY.");
        for (int spread = 1; spread <= 6; spread++) {
            StormSeeds x = land(7, 2, "kind 1 lasts 1 spread " + spread + ";kind 9 lasts 9 spread 0;kind 1 lasts 9 spread 0;");
            x.sow(0, 0);
            x.sow(1, 1);
            x.sow(2, 2);
            x.sow(1, 3);
            x.days(2);
            b.beyond("the SEED there stays", x.at(1, 2), 1);
            b.beyond("with its DAY", x.at(1, 3), 0);
            b.beyond("none at the STORM", x.at(2, 2), NONE);
            b.beyond("the next SEED stays", x.at(3, 2), 1);
            for (int cell = 4; cell <= 6; cell++) {
                b.side(cell <= spread, "SPREAD " + spread + ", CELL " + cell, x.at(cell, 2), cell <= spread ? 0 : NONE);
                b.side(cell <= spread, "its DAY", x.at(cell, 3), cell <= spread ? 1 : NONE);
            }
        }
        // STORMS of one DAY are gone row by row: those behind are there yet, those ahead are not.
        StormSeeds x = land(7, 2, "kind 1 lasts 1 spread 1;");
        x.sow(0, 1);
        x.sow(0, 2);
        x.days(2);
        b.beyond("at the next STORM none falls", x.at(2, 2), NONE);
        b.inside("behind it one does", x.at(3, 2), 0);
        StormSeeds y = land(7, 2, "kind 1 lasts 1 spread 1;");
        y.turn(3);
        y.sow(0, 1);
        y.sow(0, 2);
        y.days(2);
        b.inside("where a STORM was just now", y.at(1, 2), 0);
        b.inside("ahead of it", y.at(0, 2), 0);
    }

    private static int next(int state) {
        return state * 1664525 + 1013904223;
    }

    private static int draw(int state, int of) {
        return (int) ((state & 0xFFFFFFFFL) >> 8) % of;
    }

    /** The first STATE from one on of which the next draws of 1000, of cells, of kinds are as told (-1: any). */
    private static int stateFor(int from, int birds, int cells, int cell, int kinds, int kind) {
        for (int state = from; ; state++) {
            int one = next(state);
            int two = next(one);
            int three = next(two);
            if ((birds < 0 || draw(one, 1000) == birds) && (cell < 0 || draw(two, cells) == cell) && (kind < 0 || draw(three, kinds) == kind)) {
                return state;
            }
        }
    }

    private void draws() {
        b.terms(0, "a DRAW of m: it becomes 1664525 times itself + 1013904223 (ints, which wrap), then it is its highest 24 bits (without sign) modulo m.");
        StormSeeds x = land(2, 2, LONG_KIND);
        x.set(0, 0, 1);
        for (int state : new int[] {0, 1, -1, LEAST, MOST, 1290, 1291}) {
            // With a first DRAW of 1 .. 999 one bird draws no more.
            int first = next(state);
            if (draw(first, 1000) > 0) {
                x.state(state);
                x.days(1);
                b.inside("STATE after " + state, x.look(11), first);
            }
        }
        // The first STATE whose next one is below 0, and above: its DRAW is below 1000 in each case.
        for (int sign : new int[] {-1, 1}) {
            int state = 0;
            while (Integer.signum(next(state)) != sign || draw(next(state), 1000) == 0) {
                state++;
            }
            int due = draw(next(state), 1000);
            StormSeeds y = land(2, 2, LONG_KIND);
            y.state(state);
            y.set(0, 0, due);
            y.days(1);
            b.beyond("one DRAW of " + due, y.look(11), next(state));
            y.state(state);
            y.set(0, 0, due + 1);
            y.days(1);
            b.inside("three DRAWS of " + due, y.look(11), next(next(next(state))));
        }
    }

    private void birds() {
        b.terms(3, "(e) If BIRDS are above 0 and there are KINDS, a DRAW of 1000:");
        StormSeeds x = land(5, 4, LONG_KIND);
        x.days(1);
        b.beyond("BIRDS 0", x.look(11), 0);
        x.set(0, 0, 1);
        x.days(1);
        b.inside("BIRDS 1", x.look(11), next(0));
        StormSeeds y = new StormSeeds();
        y.set(0, 0, 1000);
        y.days(60);
        b.beyond("no KINDS", y.look(11), 0);
        b.beyond("no SEEDS", y.look(8), 0);
        tell(y, 0, LONG_KIND);
        y.days(1);
        b.inside("one KIND", y.look(11), next(next(next(0))));

        b.terms(3, "below BIRDS a DRAW of W times H for the CELL (row by row), one of how many KINDS there are for the KIND;");
        for (int drawn : new int[] {0, 1, 499, 500, 998, 999}) {
            for (int count : new int[] {1, drawn, drawn + 1, 1000}) {
                if (count == 0) {
                    continue;
                }
                StormSeeds z = land(5, 4, LONG_KIND);
                int state = stateFor(77, drawn, 1, -1, 1, -1);
                z.state(state);
                z.set(0, 0, count);
                z.days(1);
                boolean is = drawn < count;
                b.side(is, "a DRAW of " + drawn + " with BIRDS " + count, z.look(8), is ? 1 : 0);
                b.side(is, "STATE then", z.look(11), is ? next(next(next(state))) : next(state));
            }
        }
    }

    private void birdsCellAndKind() {
        b.terms(3, "a DRAW of W times H for the CELL (row by row), one of how many KINDS there are for the KIND;");
        int[][] lands = {{2, 2}, {5, 4}, {7, 7}, {2, 7}, {7, 2}};
        for (int[] l : lands) {
            int cells = l[0] * l[1];
            for (int kinds : new int[] {1, 2, 8}) {
                for (int place : new int[] {0, l[0] - 1, l[0], cells - 1}) {
                    for (int kind : new int[] {0, kinds - 1}) {
                        StormSeeds x = land(l[0], l[1], LONG_KIND.repeat(kinds));
                        x.state(stateFor(-5, -1, cells, place, kinds, kind));
                        x.set(0, 0, 1000);
                        x.days(1);
                        b.inside("KIND at the place " + place, x.at(8 * (place / l[0]) + place % l[0], 2), kind);
                        b.beyond("one SEED alone", x.look(8), 1);
                    }
                }
            }
        }
    }

    private void birdsNowhere() {
        b.terms(3, "a SEED falls there, if there is neither SEED nor STORM nor HEDGE.");
        int state = stateFor(3, -1, 20, 6, 2, 1);
        for (int what = 0; what < 4; what++) {
            StormSeeds x = land(5, 4, "kind 1 lasts 9 spread 0;" + LONG_KIND);
            if (what == 1) {
                x.sow(0, 9);
                x.days(2);
            }
            x.days(1);
            if (what == 2) {
                x.sow(0, 9);
            }
            if (what == 3) {
                x.set(2, 9, 1);
            }
            int lines = x.look(10);
            x.state(state);
            x.set(0, 0, 1000);
            x.days(1);
            b.side(what == 0, "SEEDS, case " + what, x.look(8), what == 0 || what == 2 ? 1 : 0);
            b.side(what == 0, "KIND at 9", x.at(9, 2), what == 0 ? 1 : what == 2 ? 0 : NONE);
            b.side(what == 0, "lines of THE BOOK", x.look(10), what == 0 ? lines + 1 : lines);
            b.side(what == 0, "three DRAWS in each case", x.look(11), next(next(next(state))));
        }
    }

    private void dayIsOneMore() {
        b.terms(3, "(f) DAY is one more.");
        StormSeeds x = new StormSeeds();
        for (int day = 1; day <= 60; day++) {
            x.days(1);
            b.inside("DAY", x.look(2), day);
        }
        x.days(60);
        b.inside("60 more", x.look(2), 120);
        b.beyond("days(61)", x.days(61), NONE);
        b.beyond("DAY stays", x.look(2), 120);
    }

    private void days() {
        b.promise(12, "NONE, and nothing is done, if one can't be, or DAY would be above 999.");
        for (int n = 1; n <= 60; n++) {
            StormSeeds x = new StormSeeds();
            b.inside("days(" + n + ")", x.days(n), 0);
            b.inside("DAY", x.look(2), n);
        }
        for (int n : new int[] {0, -1, -60, 61, 62, 999, 1000, LEAST, MOST}) {
            StormSeeds x = new StormSeeds();
            x.days(2);
            b.beyond("days(" + n + ")", x.days(n), NONE);
            b.beyond("DAY stays", x.look(2), 2);
        }
        for (int day = 936; day <= 999; day++) {
            StormSeeds x = new StormSeeds();
            for (int i = 0; i < 15; i++) {
                x.days(60);
            }
            x.days(day - 900 > 60 ? 60 : day - 900);
            if (day > 960) {
                x.days(day - 960);
            }
            b.given("DAY", x.look(2), day);
            x.turn(0);
            int most = Math.min(60, 999 - day);
            b.beyond("days(" + (most + 1) + ") from " + day, x.days(most + 1), NONE);
            b.beyond("days(most) from " + day, x.days(MOST), NONE);
            b.beyond("nothing is done", x.look(2), day);
            b.beyond("nor to be undone", x.look(15), 6);
            if (most > 0) {
                b.inside("days(" + most + ") from " + day, x.days(most), 0);
                b.inside("DAY", x.look(2), day + most);
            }
        }
        // With KINDS, SEEDS, BIRDS a refused one does nothing as well.
        StormSeeds x = land(5, 4, "kind 1 lasts 9 spread 0;");
        for (int i = 0; i < 16; i++) {
            x.days(60);
        }
        x.days(38);
        x.set(0, 0, 1000);
        x.sow(0, 0);
        int state = x.look(11);
        b.beyond("days(2) from 998", x.days(2), NONE);
        b.beyond("no DRAW", x.look(11), state);
        b.beyond("the SEED lies", x.look(8), 1);
        b.inside("days(1) from 998", x.days(1), 0);
        b.beyond("days(1) from 999", x.days(1), NONE);
        b.beyond("no STORM", x.look(9), 0);
    }

    private void daysUp() {
        b.promise(12, "DAYS go by (1 .. 60): how many STORMS came up (crossed, too).");
        StormSeeds x = land(7, 7, "kind 1 lasts 1 spread 0;".repeat(7) + "kind 20 lasts 1 spread 0;");
        for (int column = 0; column < 7; column++) {
            for (int row = 0; row < 7; row++) {
                x.sow(column, 8 * row + column);
            }
        }
        b.beyond("on the first DAY none", x.days(1), 0);
        b.inside("on the whole land", x.days(1), 49);
        b.beyond("and no more", x.days(60), 0);
        // One that spreads goes on by itself: DAYS 1, 2 .. 6 at the next CELL each.
        StormSeeds y = land(7, 2, "kind 1 lasts 1 spread 1;");
        y.sow(0, 0);
        b.inside("in six DAYS", y.days(6), 5);
        b.inside("in 54 more", y.days(54), 2);
    }

    private void sowing() {
        b.promise(9, "To SOW: true; false if it can't be.");
        StormSeeds x = land(7, 7, LONG_KIND.repeat(8));
        for (int kind : new int[] {0, 7}) {
            for (int cell : new int[] {0, 6, 48, 54}) {
                b.inside("sow(" + kind + ", " + cell + ")", x.sow(kind, cell));
                b.inside("KIND of its SEED", x.at(cell, 2), kind);
                b.beyond("sow(" + kind + ", " + cell + ") again", x.sow(kind, cell));
                x.weed(cell);
            }
        }
        for (int kind : new int[] {-1, 8, 9, LEAST, MOST}) {
            b.beyond("sow(" + kind + ", 0)", x.sow(kind, 0));
        }
        for (int cell : new int[] {-1, 7, 15, 55, 56, 63, 64, 72, LEAST, MOST}) {
            b.beyond("sow(0, " + cell + ")", x.sow(0, cell));
        }
        b.beyond("no SEEDS", x.look(8), 0);
        b.beyond("without KINDS", new StormSeeds().sow(0, 0));

        b.terms(3, "To SOW: where there is no SEED, no HEDGE (sown this DAY).");
        StormSeeds y = land(5, 4, "kind 1 lasts 9 spread 0;" + LONG_KIND);
        y.set(2, 1, 1);
        y.sow(0, 2);
        y.days(2);
        y.sow(1, 3);
        b.beyond("a HEDGE", y.sow(0, 1));
        b.beyond("a SEED", y.sow(0, 3));
        b.inside("a STORM", y.sow(1, 2));
        b.inside("nothing", y.sow(1, 0));
        b.inside("sown this DAY", y.at(0, 3), 2);
        y.set(2, 1, 0);
        b.inside("the HEDGE is gone", y.sow(0, 1));
        y.weed(3);
        b.inside("the SEED is gone", y.sow(0, 3));
    }

    private void weeding() {
        b.promise(10, "To WEED: true; false if it can't be.");
        StormSeeds x = land(7, 7, LONG_KIND);
        for (int cell : new int[] {0, 6, 48, 54}) {
            b.beyond("weed(" + cell + ") without a SEED", x.weed(cell));
            x.sow(0, cell);
            b.inside("weed(" + cell + ")", x.weed(cell));
            b.inside("no SEED", x.at(cell, 2), NONE);
            b.beyond("weed(" + cell + ") again", x.weed(cell));
        }
        x.sow(0, 0);
        for (int cell : new int[] {-1, 7, 55, 63, 64, 128, LEAST, MOST, -64}) {
            b.beyond("weed(" + cell + ")", x.weed(cell));
        }
        b.beyond("the SEED lies", x.look(8), 1);

        b.terms(3, "To WEED: where there is a SEED.");
        StormSeeds y = land(5, 4, "kind 1 lasts 9 spread 0;");
        y.sow(0, 0);
        y.days(2);
        b.beyond("a STORM alone", y.weed(0));
        y.sow(0, 0);
        b.inside("a SEED with a STORM", y.weed(0));
        b.inside("the STORM stays", y.at(0, 4), 0);
        y.set(2, 1, 1);
        b.beyond("a HEDGE", y.weed(1));
    }

    private void turning() {
        b.promise(11, "To TURN: true; false if it can't be (the same).");
        for (int from = 0; from < 4; from++) {
            for (int to = -1; to <= 4; to++) {
                StormSeeds x = new StormSeeds();
                x.turn(from);
                boolean can = to >= 0 && to < 4 && to != from;
                b.side(can, "turn(" + to + ") from " + from, x.turn(to) ? 1 : 0, can ? 1 : 0);
                b.side(can, "the WIND", x.look(3), can ? to : from);
            }
        }
        StormSeeds x = new StormSeeds();
        for (int wind : new int[] {LEAST, MOST, 5, -4, 1 << 16}) {
            b.beyond("turn(" + wind + ")", x.turn(wind));
        }

        b.terms(3, "To TURN the WIND (another one).");
        b.beyond("the same", x.turn(1));
        b.inside("another one", x.turn(3));
        b.inside("back", x.turn(1));
    }

    private void bookIsFull() {
        b.terms(3, "THE BOOK (150 lines; no more then):");
        StormSeeds x = land(5, 4, LONG_KIND + "kind 1 lasts 1 spread 1;");
        for (int i = 0; i < 74; i++) {
            x.sow(0, 28);
            x.weed(28);
        }
        b.inside("148", x.look(10), 148);
        x.sow(0, 28);
        b.inside("149", x.look(10), 149);
        b.beyond("line 149", x.book(149, 0), NONE);
        x.sow(1, 9);
        b.inside("150", x.look(10), 150);
        b.inside("line 149", x.book(149, 2), 9);
        b.inside("its KIND", x.book(149, 3), 1);
        b.beyond("the 151st is sown", x.sow(1, 0) ? 1 : 0, 1);
        b.beyond("no line of it", x.look(10), 150);
        b.beyond("line 150", x.book(150, 0), NONE);
        b.inside("line 149 stays", x.book(149, 2), 9);
        b.beyond("DAYS go on", x.days(2), 2);
        b.beyond("no lines of these", x.look(10), 150);
        b.beyond("SEEDS fell all the same", x.at(10, 2), 1);
        x.undo();
        x.undo();
        x.undo();
        b.beyond("150 yet", x.look(10), 150);
        x.undo();
        b.inside("149 then", x.look(10), 149);
        x.sow(1, 4);
        b.inside("another 150th", x.book(149, 2), 4);

        // In one DAY the lines end in its middle.
        StormSeeds y = land(5, 4, "kind 1 lasts 1 spread 1;");
        for (int i = 0; i < 73; i++) {
            y.sow(0, 28);
            y.weed(28);
        }
        y.sow(0, 0);
        y.sow(0, 8);
        y.days(1);
        y.days(1);
        b.inside("150 lines", y.look(10), 150);
        b.inside("the last but one", y.book(148, 2), 0);
        b.inside("the last one came up", y.book(149, 1), 2);
        b.inside("at 8", y.book(149, 2), 8);
        b.beyond("that they are gone stands nowhere", y.book(150, 1), NONE);
        b.beyond("but they are", y.look(9), 0);
    }

    private void bookLines() {
        b.promise(17, "NONE if there is none such, or another what.");
        StormSeeds x = land(5, 4, LONG_KIND);
        for (int i : new int[] {-1, 0, 1, LEAST, MOST}) {
            b.beyond("line " + i + " of the empty BOOK", x.book(i, 0), NONE);
        }
        x.days(5);
        x.sow(0, 28);
        int[] due = {5, 0, 28, 0};
        for (int what = 0; what < 4; what++) {
            b.inside("book(0, " + what + ")", x.book(0, what), due[what]);
            for (int i : new int[] {-1, 1, 2, 149, 150, LEAST, MOST}) {
                b.beyond("book(" + i + ", " + what + ")", x.book(i, what), NONE);
            }
        }
        for (int what : new int[] {-1, 4, 5, LEAST, MOST}) {
            b.beyond("book(0, " + what + ")", x.book(0, what), NONE);
        }
    }

    private void bookWhat() {
        b.terms(3, "DAY, what (0 sown, 1 weeded, 2 came up (crossed, too), 3 did not (gust 0, or weaker), 4 gone, 5 fell, 6 by birds), the CELL, the KIND that it has then (4: had).");
        StormSeeds x = land(5, 4, "kind 1 lasts 9 spread 0;kind 1 lasts 9 spread 0;kind 1 lasts 1 spread 1;cross 0 with 1 to 2;");
        tell(x, 1, "gust 0 when day=3;gust 5 when kind=0;gust 4;");
        x.sow(0, 9);
        x.days(2);
        x.sow(1, 9);
        x.sow(2, 28);
        x.weed(28);
        x.days(2);
        x.sow(2, 9);
        x.days(2);
        x.sow(1, 9);
        x.days(2);
        x.state(stateFor(0, -1, 20, 0, 3, 1));
        x.set(0, 0, 1000);
        x.turn(2);
        x.days(1);
        int[][] due = {{0, 0, 9, 0}, {1, 2, 9, 0}, {2, 0, 9, 1}, {2, 0, 28, 2}, {2, 1, 28, 2}, {3, 3, 9, 1},
            {4, 0, 9, 2}, {5, 3, 9, 2}, {6, 0, 9, 1}, {7, 2, 9, 2}, {7, 4, 9, 2}, {7, 5, 10, 2}, {8, 2, 10, 2}, {8, 4, 10, 2}, {8, 5, 18, 2}, {8, 6, 0, 1}};
        for (int i = 0; i < due.length; i++) {
            for (int what = 0; what < 4; what++) {
                b.inside("book(" + i + ", " + what + ")", x.book(i, what), due[i][what]);
            }
        }
        b.beyond("no more lines", x.look(10), due.length);
    }
}
