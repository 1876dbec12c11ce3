/** The promises 14, 15, 24, 25 and 28 to 30: kinds and what they cross to, old seeds, the game. */
final class KindBounds {
    private static final int LEAST = Integer.MIN_VALUE;
    private static final int MOST = Integer.MAX_VALUE;
    private static final int NONE = StormSeeds.NONE;
    private static final String KIND = "kind 1 lasts 1 spread 0;";

    private final Bounds b;

    KindBounds(Bounds b) {
        this.b = b;
    }

    void ask() {
        kinds();
        crosses();
        have();
        haveByAllLines();
        generations();
        manyGenerations();
        good();
        goodGoesDownwards();
        open();
        openOfSeveral();
        game();
        gameOfRows();
    }

    private StormSeeds with(String kinds) {
        StormSeeds x = new StormSeeds();
        Check.put(x, kinds);
        b.given("text(0) of " + kinds, x.text(0) >= 0 ? 1 : 0, 1);
        return x;
    }

    private void kinds() {
        b.promise(14, "Of a KIND what 0 SOIL, 1 LASTS, 2 SPREAD, 3 SEEDS of it, 4 STORMS. NONE if there is none such, or another what.");
        for (int kinds = 0; kinds <= 8; kinds++) {
            StormSeeds x = with("kind 2 lasts 3 spread 4;".repeat(kinds));
            int[] due = {2, 3, 4, 0, 0};
            for (int kind = -1; kind <= 9; kind++) {
                boolean is = kind >= 0 && kind < kinds;
                for (int what = 0; what <= 4; what++) {
                    b.side(is, "kind(" + kind + ", " + what + ") of " + kinds, x.kind(kind, what), is ? due[what] : NONE);
                }
            }
        }
        StormSeeds x = with(KIND.repeat(8));
        for (int kind : new int[] {LEAST, MOST, -8, 256}) {
            for (int what = 0; what <= 4; what++) {
                b.beyond("kind(" + kind + ", " + what + ")", x.kind(kind, what), NONE);
            }
        }
        for (int what : new int[] {-1, 5, 6, LEAST, MOST}) {
            b.beyond("kind(0, " + what + ")", x.kind(0, what), NONE);
            b.beyond("kind(7, " + what + ")", x.kind(7, what), NONE);
        }
    }

    private void crosses() {
        b.promise(15, "What two KINDS cross to; NONE if to none, or there are none such.");
        StormSeeds x = with(KIND.repeat(8) + "cross 0 with 7 to 0;cross 7 with 7 to 7;cross 7 with 0 to 1;");
        b.inside("cross(0, 7)", x.cross(0, 7), 0);
        b.inside("cross(7, 0)", x.cross(7, 0), 0);
        b.inside("cross(7, 7)", x.cross(7, 7), 7);
        b.beyond("to none", x.cross(0, 0), NONE);
        b.beyond("to none, of the last ones", x.cross(6, 7), NONE);
        for (int kind : new int[] {-1, 8, LEAST, MOST}) {
            b.beyond("cross(" + kind + ", 7)", x.cross(kind, 7), NONE);
            b.beyond("cross(7, " + kind + ")", x.cross(7, kind), NONE);
            b.beyond("cross(" + kind + ", " + kind + ")", x.cross(kind, kind), NONE);
        }
        b.beyond("without KINDS", new StormSeeds().cross(0, 0), NONE);
        b.inside("the tenth CROSSING", with(KIND.repeat(2) + "cross 0 with 0 to 0;".repeat(9) + "cross 0 with 1 to 1;").cross(1, 0), 1);
    }

    private void have() {
        b.promise(24, "HAVE, as a set; NONE if the set is none of KINDS.");
        for (int kinds = 0; kinds <= 8; kinds++) {
            StormSeeds x = with(KIND.repeat(kinds));
            int all = (1 << kinds) - 1;
            for (int set : new int[] {0, all, all >> 1}) {
                b.inside("have(" + set + ") of " + kinds, x.have(set), set);
            }
            for (int set : new int[] {all + 1, 1 << kinds | all, 1 << 8, 1 << 30, LEAST, MOST, -1, LEAST | 1}) {
                b.beyond("have(" + set + ") of " + kinds, x.have(set), NONE);
            }
        }
    }

    private void haveByAllLines() {
        b.terms(4, "HAVE from a set of KINDS: all KINDS that come of them by CROSSINGS at last (themselves, too; by all lines of CROSSINGS).");
        StormSeeds x = with(KIND.repeat(8) + "cross 5 with 5 to 6;cross 4 with 4 to 5;cross 3 with 3 to 4;cross 2 with 2 to 3;"
                + "cross 1 with 1 to 2;cross 0 with 0 to 1;cross 6 with 0 to 7;");
        b.inside("by seven lines", x.have(1), 255);
        b.inside("but the first", x.have(2), 254 - 128);
        b.inside("the last one alone", x.have(128), 128);
        b.beyond("no set comes of none", x.have(0), 0);
        StormSeeds y = with(KIND.repeat(4) + "cross 0 with 1 to 2;cross 1 with 0 to 3;");
        b.inside("by a second line of the same two", y.have(3), 15);
        b.beyond("one of the two alone", y.have(1), 1);
        b.beyond("the other one alone", y.have(2), 2);
        b.beyond("as a STORM they cross by the first line", y.cross(0, 1), 2);
        StormSeeds z = with(KIND.repeat(8) + "cross 0 with 0 to 7;".repeat(9) + "cross 7 with 7 to 6;");
        b.inside("by the tenth line", z.have(1), 1 + 128 + 64);
    }

    private void generations() {
        b.promise(25, "GENERATIONS; NONE if never, or one can't be.");
        for (int kinds = 0; kinds <= 8; kinds++) {
            StormSeeds x = with(KIND.repeat(kinds));
            int all = (1 << kinds) - 1;
            for (int kind = -1; kind <= 9; kind++) {
                boolean is = kind >= 0 && kind < kinds;
                b.side(is, "generations(" + all + ", " + kind + ")", x.generations(all, kind), is ? 0 : NONE);
                b.beyond("generations(0, " + kind + ")", x.generations(0, kind), NONE);
                for (int set : new int[] {all + 1, 2 * all + 1, LEAST | all, -1}) {
                    if (set != all) {
                        b.beyond("generations(" + set + ", " + kind + ") of " + kinds, x.generations(set, kind), NONE);
                    }
                }
            }
        }
        StormSeeds x = with(KIND.repeat(8));
        for (int kind : new int[] {LEAST, MOST, 31, 32, 33, 64}) {
            b.beyond("generations(255, " + kind + ")", x.generations(255, kind), NONE);
        }
    }

    private void manyGenerations() {
        b.terms(4, "GENERATIONS: the fewest until a KIND is there: 0 for those of the set; each one all CROSSINGS of what is there (by all lines).");
        // Told from the last to the first and from the first to the last: a line counts for the next generation alone.
        StringBuilder down = new StringBuilder();
        StringBuilder up = new StringBuilder();
        for (int i = 0; i < 7; i++) {
            up.append("cross ").append(i).append(" with ").append(i).append(" to ").append(i + 1).append(";");
            down.append("cross ").append(6 - i).append(" with ").append(6 - i).append(" to ").append(7 - i).append(";");
        }
        for (StringBuilder lines : new StringBuilder[] {down, up}) {
            StormSeeds x = with(KIND.repeat(8) + lines);
            for (int kind = 0; kind <= 7; kind++) {
                b.inside("KIND " + kind + " from 0", x.generations(1, kind), kind);
                b.inside("KIND " + kind + " from all", x.generations(255, kind), 0);
                b.side(kind >= 4, "KIND " + kind + " from 4", x.generations(16, kind), kind >= 4 ? kind - 4 : NONE);
            }
        }
        StormSeeds y = with(KIND.repeat(4) + "cross 0 with 1 to 2;cross 1 with 0 to 3;");
        b.inside("by a second line", y.generations(3, 3), 1);
        b.beyond("without one of both", y.generations(1 + 4, 3), NONE);
    }

    private void good() {
        b.promise(28, "GOOD; NONE if one can't be (p 0 .. 1000).");
        StormSeeds x = new StormSeeds();
        int[][] due = {{0, 0, 1000000}, {0, 1000, 1000000}, {60, 0, 1000000}, {1, 1000, 0}, {60, 1000, 0}, {1, 999, 1000}, {2, 999, 1}, {3, 999, 0}, {1, 1, 999000}};
        for (int[] d : due) {
            b.inside("good(" + d[0] + ", " + d[1] + ")", x.good(d[0], d[1]), d[2]);
        }
        for (int odd : new int[] {-1, LEAST, MOST, 1001, 1 << 20}) {
            b.beyond("good(0, " + odd + ")", x.good(0, odd), NONE);
            b.beyond("good(60, " + odd + ")", x.good(60, odd), NONE);
        }
        for (int n : new int[] {-1, 61, 62, LEAST, MOST}) {
            b.beyond("good(" + n + ", 0)", x.good(n, 0), NONE);
            b.beyond("good(" + n + ", 1000)", x.good(n, 1000), NONE);
        }

        b.terms(4, "that a seed is good yet after n (0 .. 60) years, each year p of a thousand being lost:");
        b.inside("no year", x.good(0, 500), 1000000);
        b.inside("one year", x.good(1, 500), 500000);
        b.inside("60 years", x.good(60, 500), 0);
        b.beyond("61 years", x.good(61, 500), NONE);
    }

    private void goodGoesDownwards() {
        b.terms(4, "downwards year by year.");
        StormSeeds x = new StormSeeds();
        for (int p : new int[] {1, 7, 333, 500, 667, 998}) {
            // What is left by 1000 in each year, held to whole ones: never up, never the whole power at once.
            int left = 1000000;
            boolean isUneven = false;
            for (int n = 0; n <= 60; n++) {
                b.inside("good(" + n + ", " + p + ")", x.good(n, p), left);
                isUneven |= left * (1000 - p) % 1000 != 0;
                left = left * (1000 - p) / 1000;
            }
            b.beyond("some year leaves a rest", isUneven ? 1 : 0, 1);
        }
        // 999 to the 3rd is 997.002999 of a thousand; 500 halves 15625 to 7812, 3906, 1953, 976.
        b.inside("good(3, 1)", x.good(3, 1), 997002);
        b.beyond("not upwards", x.good(7, 500), 7812);
        b.beyond("nor once at the end", x.good(10, 500), 976);
        b.inside("1 is left", x.good(19, 500), 1);
        b.beyond("and then none", x.good(20, 500), 0);
    }

    private void open() {
        b.promise(29, "OPEN; NONE if one can't be (g 0 .. 99).");
        StormSeeds x = new StormSeeds();
        int[][] due = {{0, 0, 0}, {0, 1, 60}, {0, 99, 60}, {1000, 0, 0}, {1000, 99, 0}, {500, 99, 0}, {1, 0, 0}, {1, 99, 60}};
        for (int[] d : due) {
            b.inside("open(" + d[0] + ", " + d[1] + ")", x.open(d[0], d[1]), d[2]);
        }
        for (int p : new int[] {-1, 1001, 1002, LEAST, MOST}) {
            b.beyond("open(" + p + ", 0)", x.open(p, 0), NONE);
            b.beyond("open(" + p + ", 99)", x.open(p, 99), NONE);
        }
        for (int g : new int[] {-1, 100, 101, LEAST, MOST}) {
            b.beyond("open(0, " + g + ")", x.open(0, g), NONE);
            b.beyond("open(1000, " + g + ")", x.open(1000, g), NONE);
        }
    }

    private void openOfSeveral() {
        b.terms(4, "OPEN: the year 0 .. 60 in which GOOD times (100 and g times the years) by 100 (a long) is greatest; of several the first.");
        StormSeeds x = new StormSeeds();
        b.inside("all alike", x.open(0, 0), 0);
        b.inside("the last year", x.open(0, 1), 60);
        b.inside("GOOD of 0 in all later years", x.open(1000, 99), 0);
        // 1000000 times 100 and 800000 times 125 are the same.
        b.inside("alike in the years 0 and 1", x.open(200, 25), 0);
        // 656100 times 180 and 590490 times 200 are the same.
        b.inside("alike in the years 4 and 5", x.open(100, 20), 4);
        // 1000000 times 6040 is more than an int holds.
        b.inside("a long", x.open(0, 99), 60);
        for (int p = 0; p <= 40; p++) {
            for (int g : new int[] {0, 1, 50, 99}) {
                int best = bestYear(p, g);
                b.side(best > 0 && best < 60, "open(" + p + ", " + g + ")", x.open(p, g), best);
            }
        }
    }

    /** The first year of the greatest worth, by its sentence. */
    private static int bestYear(int p, int g) {
        long[] worth = new long[61];
        long good = 1000000;
        for (int year = 0; year <= 60; year++) {
            worth[year] = good * (100 + g * year) / 100;
            good = good * (1000 - p) / 1000;
        }
        int best = 60;
        for (int year = 59; year >= 0; year--) {
            if (worth[year] >= worth[best]) {
                best = year;
            }
        }
        return best;
    }

    private void game() {
        b.promise(30, "GAME what 0 the row, 1 how many he leaves. NONE if who begins loses, or another what.");
        StormSeeds x = with("kind 20 lasts 1 spread 0;");
        b.beyond("no SEEDS: the row", x.game(0), NONE);
        b.beyond("no SEEDS: how many", x.game(1), NONE);
        x.sow(0, 24);
        b.inside("one SEED in the last row", x.game(0), 3);
        b.inside("none is left", x.game(1), 0);
        x.sow(0, 28);
        b.inside("two there", x.game(0), 3);
        b.inside("none is left of two", x.game(1), 0);
        x.sow(0, 0);
        b.inside("one and two: the row", x.game(0), 3);
        b.inside("one and two: one is left", x.game(1), 1);
        x.sow(0, 4);
        b.beyond("two and two: the row", x.game(0), NONE);
        b.beyond("two and two: how many", x.game(1), NONE);
        for (int what : new int[] {-1, 2, 3, LEAST, MOST}) {
            b.beyond("game(" + what + ")", x.game(what), NONE);
        }
        x.weed(0);
        for (int what : new int[] {-1, 2, LEAST, MOST}) {
            b.beyond("game(" + what + ") that is won", x.game(what), NONE);
        }
        b.beyond("without KINDS", new StormSeeds().game(0), NONE);
    }

    private void gameOfRows() {
        b.terms(4, "who weeds the last one wins: the row y (of several the least) in which who begins wins, and how many he leaves there.");
        int[][] rows = {{7}, {0, 0, 0, 0, 0, 0, 7}, {7, 7}, {7, 6}, {1, 1, 1}, {1, 2, 3}, {1, 2, 4}, {3, 4, 5}, {7, 7, 7}, {7, 7, 7, 7},
            {1, 2, 3, 4, 5, 6, 7}, {1, 2, 3, 4, 5, 6, 6}, {2, 2, 2, 2, 2, 2, 3}, {0, 5, 0, 5, 0, 5, 0}, {6, 0, 0, 3, 0, 0, 5}, {6, 0, 0, 3, 0, 0, 4}};
        int[][] due = {{0, 0}, {6, 0}, {NONE, NONE}, {0, 6}, {0, 0}, {NONE, NONE}, {2, 3}, {0, 1}, {0, 0}, {NONE, NONE},
            {NONE, NONE}, {0, 0}, {0, 1}, {1, 0}, {NONE, NONE}, {3, 2}};
        for (int i = 0; i < rows.length; i++) {
            StormSeeds x = new StormSeeds();
            x.land(7, 7);
            Check.put(x, "kind 20 lasts 1 spread 0;");
            b.given("text(0)", x.text(0), 1);
            for (int y = 0; y < rows[i].length; y++) {
                for (int column = 0; column < rows[i][y]; column++) {
                    x.sow(0, 8 * y + 6 - column);
                }
            }
            boolean isWon = due[i][0] != NONE;
            b.side(isWon, "the row of rows " + i, x.game(0), due[i][0]);
            b.side(isWon, "what is left of rows " + i, x.game(1), due[i][1]);
        }
    }
}
