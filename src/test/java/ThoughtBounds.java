/** Terms, part 4, and the promises 18 to 23 and 27: what is in thought. */
final class ThoughtBounds {
    private static final int LEAST = Integer.MIN_VALUE;
    private static final int MOST = Integer.MAX_VALUE;
    private static final int NONE = StormSeeds.NONE;
    private static final int[] NO_DAYS = {0, -1, -60, 61, 62, 999, LEAST, MOST};
    private static final int[] NO_CELLS = {-1, 5, 7, 29, 31, 32, 63, 64, LEAST, MOST};
    // Comes up after a day, blows for one day.
    private static final String SHORT = "kind 1 lasts 1 spread 0;";

    private final Bounds b;

    ThoughtBounds(Bounds b) {
        this.b = b;
    }

    void ask() {
        blowsAndHarms();
        behindCAheadOfD();
        nothingStays();
        noBirds();
        beyondTheLastDay();
        wants();
        wantsThatAreMet();
        meets();
        sows();
        sowsFarAhead();
        sowsOfNow();
        sowsOfSeveral();
        sowsAnywhere();
        gets();
        getsByThen();
        getsWithoutOthers();
        weeds();
        weedsOfTen();
        weedsOfSeveral();
        calm();
        calmRows();
    }

    private StormSeeds land(int w, int h, String kinds) {
        StormSeeds x = new StormSeeds();
        b.given("land(" + w + ", " + h + ")", x.land(w, h) ? 1 : 0, 1);
        tell(x, 0, kinds);
        return x;
    }

    private void tell(StormSeeds x, int k, String text) {
        Check.put(x, text);
        b.given("text(" + k + ") of " + text, x.text(k) >= 0 ? 1 : 0, 1);
    }

    private static void go(StormSeeds x, int day) {
        for (int n = day - x.look(2); n > 0; n = day - x.look(2)) {
            x.days(Math.min(60, n));
        }
    }

    private static long bit(int cell) {
        return 1L << cell;
    }

    private void blowsAndHarms() {
        // A STORM on DAY 59 alone, which is the 60th from DAY 0, and one on DAY 60, the 61st.
        b.promise(18, "BLOWS: the CELLS, as a set; NONE if one can't be.");
        StormSeeds x = land(7, 7, SHORT);
        tell(x, 3, "on 58 sow 0 at 54;on 59 sow 0 at 0;on 0 sow 0 at 9;");
        b.inside("blows(1)", x.blows(1), 0);
        b.inside("blows(2)", x.blows(2), bit(9));
        b.inside("blows(3)", x.blows(3), 0);
        b.inside("blows(59)", x.blows(59), 0);
        b.inside("blows(60)", x.blows(60), bit(54));
        for (int n : NO_DAYS) {
            b.beyond("blows(" + n + ")", x.blows(n), NONE);
        }
        x.days(1);
        b.inside("blows(60) from DAY 1", x.blows(60), bit(0));
        b.inside("blows(59) from DAY 1", x.blows(59), bit(54));
        b.beyond("blows(61) from DAY 1", x.blows(61), NONE);

        b.promise(19, "HARM of n DAYS; NONE if one can't be.");
        StormSeeds y = land(7, 7, SHORT);
        tell(y, 1, "harm day;");
        tell(y, 3, "on 58 sow 0 at 54;on 59 sow 0 at 0;on 0 sow 0 at 9;");
        int[][] due = {{1, 0}, {2, 1}, {3, 1}, {59, 1}, {60, 1 + 59}};
        for (int[] d : due) {
            b.inside("harms(" + d[0] + ")", y.harms(d[0]), d[1]);
        }
        for (int n : NO_DAYS) {
            b.beyond("harms(" + n + ")", y.harms(n), NONE);
        }
        y.days(2);
        b.inside("harms(1) from DAY 2", y.harms(1), 0);
        b.inside("harms(60) from DAY 2", y.harms(60), 59 + 60);
        b.beyond("harms(61) from DAY 2", y.harms(61), NONE);

        b.terms(4, "BLOWS at the end of the n-th DAY from now (1 .. 60):");
        b.inside("blows(58) from DAY 2", y.blows(58), bit(54));
        b.inside("blows(59) from DAY 2", y.blows(59), bit(0));
        b.beyond("blows(0) from DAY 2", y.blows(0), NONE);
    }

    private void behindCAheadOfD() {
        b.terms(4, "CELLS with a STORM behind (c), ahead of (d), of that DAY; HARM of these n DAYS.");
        for (int lasts = 1; lasts <= 9; lasts++) {
            StormSeeds x = land(5, 4, "kind 1 lasts " + lasts + " spread 1;");
            tell(x, 1, "gust 4;harm 7;");
            x.sow(0, 8);
            b.beyond("ahead of its first DAY", x.blows(1), 0);
            b.beyond("no HARM then", x.harms(1), 0);
            b.inside("on its first DAY", x.blows(2), bit(8));
            b.inside("on its last DAY", x.blows(1 + lasts), bit(8));
            b.inside("HARM up to its last DAY", x.harms(1 + lasts), 7 * lasts);
            b.beyond("behind its last DAY the next one blows", x.blows(2 + lasts), bit(9));
            b.inside("HARM of it, too", x.harms(2 + lasts), 7 * lasts + 7);
        }
    }

    private void nothingStays() {
        b.terms(4, "(nothing of it stays; no DRAWS: no BIRDS).");
        StormSeeds x = land(3, 3, "kind 1 lasts 2 spread 2;kind 2 lasts 1 spread 0;cross 0 with 0 to 1;");
        tell(x, 2, "want 0 at 9 on 3 worth 9;");
        tell(x, 3, "on 1 sow 0 at 9;on 2 north;on 1 weed 8;");
        x.set(0, 0, 1000);
        x.sow(0, 0);
        x.sow(1, 8);
        long[] before = seen(x);
        x.blows(60);
        x.harms(60);
        x.meets(0);
        x.meets(1);
        x.sows(0, 0);
        x.gets(0, 0, 9);
        x.weeds(bit(9), 60, 0);
        x.calm(9, 60, 0);
        x.who(9, 3, 0);
        long[] after = seen(x);
        for (int i = 0; i < before.length; i++) {
            b.inside("answer " + i + " behind all thought", after[i], before[i]);
        }
        // What is thought comes to be, without BIRDS.
        x.set(0, 0, 0);
        long harm = x.harms(3);
        long blows = x.blows(4);
        x.days(3);
        b.inside("HARM comes to be", x.look(5), harm);
        b.inside("so do STORMS", x.blows(1), blows);
        b.beyond("DAY", x.look(2), 3);
    }

    private static long[] seen(StormSeeds x) {
        long[] all = new long[16 + 9 * 9];
        for (int i = 0; i < 16; i++) {
            all[i] = x.look(i);
        }
        for (int cell = 0; cell < 9; cell++) {
            for (int what = 0; what < 9; what++) {
                all[16 + 9 * cell + what] = x.at(8 * (cell / 3) + cell % 3, what);
            }
        }
        return all;
    }

    private void noBirds() {
        b.terms(4, "no DRAWS: no BIRDS).");
        StormSeeds x = land(2, 2, SHORT);
        x.set(0, 0, 1000);
        b.inside("in thought nothing falls", x.blows(60), 0);
        b.inside("nor harms", x.harms(60), 0);
        b.inside("all is calm", x.calm(0, 60, 0), 60);
        b.inside("nothing is to be weeded", x.weeds(bit(0) | bit(1) | bit(8) | bit(9), 60, 0), 0);
        b.inside("STATE stays", x.look(11), 0);
        x.days(4);
        b.beyond("but it does", x.look(5) > 0 ? 1 : 0, 1);
        b.beyond("by DRAWS", x.look(11) != 0 ? 1 : 0, 1);
    }

    private void beyondTheLastDay() {
        // The document bounds days(n) by DAY 999, but none of what is in thought.
        b.promise(18, "BLOWS:");
        StormSeeds x = land(5, 4, SHORT);
        go(x, 998);
        x.sow(0, 9);
        b.inside("on DAY 999", x.blows(2), bit(9));
        x.days(1);
        x.sow(0, 10);
        b.inside("on DAY 999, from it", x.blows(1), bit(9));
        b.inside("on DAY 1000", x.blows(2), bit(10));
        b.inside("harms(60), of GUST 1 each", x.harms(60), 2);
        b.inside("calm(10, 60, 0)", x.calm(10, 60, 0), 58);
        b.inside("calm(10, 60, 1)", x.calm(10, 60, 1), 1001);
        b.inside("weeds", x.weeds(bit(10), 60, 1), bit(10));
        b.beyond("days(1)", x.days(1), NONE);
        b.beyond("blows(61)", x.blows(61), NONE);
    }

    private void wants() {
        b.terms(4, "MEETS: of WANTS of DAYS from this one on: the worth of all that are MET; the first (by DAY, then number) that is not.");
        for (int day : new int[] {0, 1, 5, 998, 999}) {
            StormSeeds x = land(5, 4, SHORT);
            go(x, day);
            tell(x, 2, "want calm at 0 on " + Math.max(0, day - 1) + " worth 1;want calm at 0 on " + day + " worth 2;want calm at 0 on " + Math.min(999, day + 1) + " worth 4;");
            b.inside("worth on DAY " + day, x.meets(0), day == 0 ? 7 : 6);
            tell(x, 2, "want 0 at 0 on " + Math.max(0, day - 1) + " worth 1;want 0 at 1 on " + day + " worth 2;");
            b.beyond("none is MET on DAY " + day, x.meets(0), 0);
            b.inside("the first on DAY " + day, x.meets(1), day == 0 ? 0 : 1);
            tell(x, 2, "want 0 at 0 on " + Math.max(0, day - 1) + " worth 1;");
            b.side(day == 0, "its DAY is behind or not", x.meets(1), day == 0 ? 0 : NONE);
        }
        StormSeeds x = land(5, 4, SHORT);
        tell(x, 2, "want 0 at 0 on 3 worth 1;want 0 at 0 on 2 worth 1;want 0 at 1 on 2 worth 1;want 0 at 1 on 999 worth 1;");
        b.inside("by DAY, then number", x.meets(1), 1);
        x.days(3);
        b.inside("by DAY alone", x.meets(1), 0);
        x.days(1);
        b.inside("the last DAY of all", x.meets(1), 3);
        go(x, 999);
        b.inside("on it", x.meets(1), 3);
        tell(x, 2, "want calm at 0 on 999 worth 99;".repeat(10));
        b.inside("ten WANTS of 99", x.meets(0), 990);
        b.beyond("all are MET", x.meets(1), NONE);
        tell(x, 2, "want calm at 0 on 999 worth 99;".repeat(9) + "want 0 at 0 on 999 worth 1;");
        b.inside("the tenth", x.meets(1), 9);
        tell(x, 2, "");
        b.beyond("no WANTS: the worth", x.meets(0), 0);
        b.beyond("no WANTS: the first", x.meets(1), NONE);
    }

    private void wantsThatAreMet() {
        b.terms(4, "A WANT of a KIND is MET, if a STORM of it is at its CELL on its DAY so (behind (c)); of calm, if none is.");
        for (int lasts = 1; lasts <= 9; lasts += 4) {
            StormSeeds x = land(5, 4, "kind 1 lasts 9 spread 0;kind 2 lasts " + lasts + " spread 0;");
            x.sow(1, 28);
            // STORMS at 28 from DAY 2 to DAY 1 + lasts.
            int last = 1 + lasts;
            int[] days = {1, 2, last, last + 1};
            for (int day : days) {
                boolean is = day >= 2 && day <= last;
                tell(x, 2, "want 1 at 28 on " + day + " worth 5;");
                b.side(is, "a WANT on DAY " + day, x.meets(0), is ? 5 : 0);
                b.side(is, "the first that is not", x.meets(1), is ? NONE : 0);
                tell(x, 2, "want calm at 28 on " + day + " worth 5;");
                b.side(!is, "of calm on DAY " + day, x.meets(0), is ? 0 : 5);
                tell(x, 2, "want 0 at 28 on " + day + " worth 5;");
                b.beyond("of another KIND", x.meets(0), 0);
                tell(x, 2, "want 1 at 27 on " + day + " worth 5;");
                b.beyond("at another CELL", x.meets(0), 0);
            }
        }
    }

    private void meets() {
        b.promise(20, "MEETS what 0 the worth, 1 the first that is not (NONE). NONE for another what.");
        StormSeeds x = land(5, 4, SHORT);
        tell(x, 2, "want calm at 0 on 0 worth 99;want 0 at 0 on 0 worth 1;");
        b.inside("meets(0)", x.meets(0), 99);
        b.inside("meets(1)", x.meets(1), 1);
        for (int what : new int[] {-1, 2, 3, LEAST, MOST}) {
            b.beyond("meets(" + what + ")", x.meets(what), NONE);
        }
        StormSeeds y = new StormSeeds();
        b.inside("without WANTS", y.meets(0), 0);
        b.beyond("without WANTS: the first", y.meets(1), NONE);
        b.beyond("without WANTS: meets(2)", y.meets(2), NONE);
    }

    private void sows() {
        b.promise(21, "SOWS what 0 the KIND, 1 the CELL, 2 HARM. NONE if by none, there is no such WANT, its DAY is behind or more than 60 from now, or another what.");
        StormSeeds x = land(5, 4, "kind 1 lasts 1 spread 0;kind 2 lasts 1 spread 0;");
        tell(x, 1, "gust 4;harm 9;");
        tell(x, 2, "want 1 at 28 on 2 worth 1;want 0 at 28 on 2 worth 1;".repeat(5));
        int[] due = {1, 28, 9};
        for (int what = 0; what <= 2; what++) {
            b.inside("sows(0, " + what + ")", x.sows(0, what), due[what]);
            b.inside("sows(8, " + what + ")", x.sows(8, what), due[what]);
            b.beyond("by none: sows(9, " + what + ")", x.sows(9, what), NONE);
            for (int want : new int[] {-1, 10, 11, LEAST, MOST}) {
                b.beyond("sows(" + want + ", " + what + ")", x.sows(want, what), NONE);
            }
        }
        for (int what : new int[] {-1, 3, LEAST, MOST}) {
            b.beyond("sows(0, " + what + ")", x.sows(0, what), NONE);
        }
        tell(x, 2, "want 1 at 28 on 2 worth 1;");
        b.beyond("the second of one WANT", x.sows(1, 0), NONE);
        tell(x, 2, "");
        b.beyond("the first of none", x.sows(0, 0), NONE);
        StormSeeds y = new StormSeeds();
        tell(y, 2, "want calm at 0 on 0 worth 1;");
        for (int what = 0; what <= 2; what++) {
            b.beyond("no KINDS to sow: sows(0, " + what + ")", y.sows(0, what), NONE);
        }
    }

    private void sowsFarAhead() {
        b.promise(21, "its DAY is behind or more than 60 from now");
        for (int day : new int[] {0, 1, 100, 900}) {
            StormSeeds x = land(5, 4, "kind 20 lasts 9 spread 0;");
            go(x, day);
            int[] ahead = {-1, 0, 1, 59, 60, 61, 62};
            for (int a : ahead) {
                if (day + a >= 0) {
                    tell(x, 2, "want calm at 28 on " + (day + a) + " worth 1;");
                    boolean is = a >= 0 && a <= 60;
                    b.side(is, "sows(0, 0), " + a + " from " + day, x.sows(0, 0), is ? 0 : NONE);
                    b.side(is, "sows(0, 1), " + a + " from " + day, x.sows(0, 1), is ? 0 : NONE);
                    // It blows for nine DAYS, with GUST 1 where it is dry by then.
                    b.side(is, "sows(0, 2), " + a + " from " + day, x.sows(0, 2), !is ? NONE : a < 20 ? 0 : 9);
                }
            }
        }
        // The 61st DAY, 60 from now, is thought to its (c), and its HARM counts.
        StormSeeds x = land(2, 2, "kind 20 lasts 9 spread 1;");
        tell(x, 1, "gust 4;harm 9 when day=60;harm 0;");
        tell(x, 3, "on 40 sow 0 at 8;");
        tell(x, 2, "want 0 at 8 on 60 worth 1;want 0 at 8 on 59 worth 1;");
        b.inside("HARM of that DAY, too", x.sows(0, 2), 9);
        b.inside("the CELL", x.sows(0, 1), 0);
        b.beyond("on the DAY ahead of it by none", x.sows(1, 0), NONE);
    }

    private void sowsOfNow() {
        b.terms(4, "that with the least HARM up to its DAY (that one, too);");
        StormSeeds x = land(5, 4, SHORT);
        tell(x, 1, "gust 1;harm 9;");
        x.sow(0, 0);
        x.days(2);
        b.given("HARM", x.look(5), 9);
        tell(x, 2, "want 0 at 28 on 3 worth 1;want calm at 28 on 2 worth 1;want calm at 28 on 3 worth 1;");
        b.inside("HARM from now on alone", x.sows(0, 2), 9);
        b.beyond("what comes up behind its DAY does not count", x.sows(1, 2), 0);
        b.inside("what comes up on its DAY does", x.sows(2, 2), 9);
    }

    private void sowsOfSeveral() {
        b.terms(4, "that with the least HARM up to its DAY (that one, too); of several the first.");
        StormSeeds x = land(5, 4, SHORT.repeat(8));
        tell(x, 2, "want calm at 0 on 1 worth 1;");
        int[] least = {9, 9, 9, 4, 9, 4, 9, 4};
        tell(x, 1, "gust 1;harm 4 when kind=3 or kind=5 or kind=7;harm 9;");
        b.inside("the first KIND of several", x.sows(0, 0), 3);
        // At 0 the WANT would not be MET.
        b.inside("the first CELL of several", x.sows(0, 1), 1);
        b.inside("its HARM", x.sows(0, 2), least[3]);
        tell(x, 1, "gust 1;harm 3 when kind=7 and edge=0 and day=1 and wet=2;harm 4;");
        x.set(1, 17, 3);
        b.inside("less by one: KIND", x.sows(0, 0), 7);
        b.inside("less by one: CELL", x.sows(0, 1), 9);
        b.inside("less by one: HARM", x.sows(0, 2), 3);
        tell(x, 1, "gust 1;harm 5 when kind=7;harm 4;");
        b.beyond("more by one: KIND", x.sows(0, 0), 0);
        b.beyond("more by one: HARM", x.sows(0, 2), 4);

        // The last CELL of the last KIND is found as well.
        StormSeeds y = land(7, 7, SHORT.repeat(8));
        tell(y, 2, "want 7 at 54 on 1 worth 1;want 7 at 54 on 0 worth 1;");
        b.inside("the last KIND", y.sows(0, 0), 7);
        b.inside("the last CELL", y.sows(0, 1), 54);
        b.beyond("on DAY 0 by none", y.sows(1, 0), NONE);
    }

    private void sowsAnywhere() {
        b.terms(4, "of all SEEDS that can be sown now (KIND by KIND, CELL by CELL) by which it is MET:");
        StormSeeds x = land(2, 2, "kind 1 lasts 1 spread 0;kind 9 lasts 1 spread 0;");
        tell(x, 2, "want calm at 9 on 5 worth 1;");
        int[] cells = {0, 1, 8, 9};
        for (int i = 0; i < 4; i++) {
            b.inside("the first CELL of " + (4 - i), x.sows(0, 1), cells[i]);
            if (i % 2 == 0) {
                x.set(2, cells[i], 1);
            } else {
                x.sow(1, cells[i]);
            }
        }
        b.beyond("on the full land by none", x.sows(0, 1), NONE);
        x.weed(9);
        b.inside("where a SEED was", x.sows(0, 1), 9);
        x.sow(1, 9);
        x.set(2, 8, 0);
        b.inside("where a HEDGE was", x.sows(0, 1), 8);
        b.beyond("that it is MET without one is no matter", x.meets(0), 1);
    }

    private void gets() {
        b.promise(22, "GETS; NONE if never by then, or one can't be.");
        StormSeeds x = land(5, 4, "kind 1 lasts 1 spread 1;kind 20 lasts 9 spread 6;");
        b.inside("gets(0, 0, 1)", x.gets(0, 0, 1), 3);
        b.inside("gets(1, 24, 28)", x.gets(1, 24, 28), 49);
        for (int kind : new int[] {-1, 2, 7, 8, LEAST, MOST}) {
            b.beyond("gets(" + kind + ", 0, 1)", x.gets(kind, 0, 1), NONE);
        }
        for (int cell : NO_CELLS) {
            b.beyond("gets(0, " + cell + ", 1)", x.gets(0, cell, 1), NONE);
            b.beyond("gets(0, 0, " + cell + ")", x.gets(0, 0, cell), NONE);
        }
        b.beyond("up the WIND", x.gets(0, 1, 0), NONE);
        b.beyond("to itself, which is no other CELL", x.gets(0, 0, 0), NONE);
        b.beyond("without KINDS", new StormSeeds().gets(0, 0, 1), NONE);
        x.set(2, 24, 1);
        b.beyond("from a HEDGE", x.gets(1, 24, 28), NONE);
        b.inside("from beside it", x.gets(1, 25, 28), 49);
        x.set(2, 28, 1);
        b.beyond("to a HEDGE", x.gets(1, 25, 28), NONE);
        b.inside("ahead of it", x.gets(1, 25, 27), 49);
    }

    private void getsByThen() {
        b.terms(4, "(behind (c) of that DAY, the first DAY counts 1; 99 at most).");
        // A STORM of SOIL s and LASTS l is at the k-th CELL beyond on DAY s + k (s + l - 1), which counts 1 more.
        for (int soil = 1; soil <= 20; soil++) {
            for (int lasts = 1; lasts <= 9; lasts++) {
                StormSeeds x = land(7, 2, "kind " + soil + " lasts " + lasts + " spread 1;");
                for (int k = 1; k <= 6; k++) {
                    int due = 1 + soil + k * (soil + lasts - 1);
                    b.side(due <= 99, "SOIL " + soil + ", LASTS " + lasts + ", CELL " + k, x.gets(0, 0, k), due <= 99 ? due : NONE);
                }
            }
        }
        // 99 and 100 themselves are among these: SOIL 20, LASTS 7, three CELLS; SOIL 19, LASTS 2, four.
        StormSeeds x = land(7, 2, "kind 20 lasts 7 spread 1;kind 19 lasts 2 spread 1;");
        b.inside("99", x.gets(0, 0, 3), 99);
        b.beyond("100", x.gets(1, 0, 4), NONE);
        go(x, 999);
        b.inside("99 from DAY 999", x.gets(0, 0, 3), 99);
        b.beyond("100 from DAY 999", x.gets(1, 0, 4), NONE);
    }

    private void getsWithoutOthers() {
        b.terms(4, "but without any SEED, STORM or PLAN:");
        StormSeeds x = land(5, 4, "kind 1 lasts 1 spread 1;kind 1 lasts 9 spread 0;");
        b.given("alone", x.gets(0, 0, 1), 3);
        x.sow(1, 1);
        b.inside("with a SEED there", x.gets(0, 0, 1), 3);
        x.days(2);
        b.given("a STORM", x.at(1, 4), 1);
        b.inside("with a STORM there", x.gets(0, 0, 1), 3);
        x.sow(1, 0);
        b.inside("with a SEED where it is sown", x.gets(0, 0, 1), 3);
        tell(x, 3, "on 2 weed 0;on 2 sow 0 at 1;on 3 west;");
        b.inside("with A PLAN", x.gets(0, 0, 1), 3);
        x.set(2, 1, 0);
        x.turn(3);
        b.beyond("with the WIND as it is", x.gets(0, 0, 1), NONE);
        x.turn(1);
        tell(x, 1, "gust 0 when wet<9;gust 3;");
        b.beyond("with the WET as it is", x.gets(0, 0, 1), NONE);
        x.weed(0);
        x.set(1, 0, 9);
        x.set(2, 2, 1);
        b.beyond("with the HEDGE as it is", x.gets(0, 0, 2), NONE);
    }

    private void weeds() {
        b.promise(23, "WEEDS what 0 how many, 1 the set. NONE if by none, one can't be, there are more than ten SEEDS, or another what.");
        StormSeeds x = land(5, 4, "kind 2 lasts 1 spread 0;kind 1 lasts 9 spread 0;");
        x.sow(0, 28);
        b.inside("how many", x.weeds(bit(28), 60, 0), 1);
        b.inside("the set", x.weeds(bit(28), 60, 1), bit(28));
        b.inside("of no CELLS", x.weeds(0, 60, 0), 0);
        b.inside("of no CELLS, the set", x.weeds(0, 60, 1), 0);
        b.inside("of all CELLS", x.weeds(0x1F1F1F1FL, 60, 0), 1);
        for (int what : new int[] {-1, 2, 3, LEAST, MOST}) {
            b.beyond("weeds(.., 60, " + what + ")", x.weeds(bit(28), 60, what), NONE);
        }
        for (int what = 0; what <= 1; what++) {
            for (int n : NO_DAYS) {
                b.beyond("weeds(.., " + n + ", " + what + ")", x.weeds(bit(28), n, what), NONE);
                b.beyond("weeds(0, " + n + ", " + what + ")", x.weeds(0, n, what), NONE);
            }
            for (int cell : new int[] {5, 6, 7, 13, 29, 31, 32, 54, 62, 63}) {
                b.beyond("weeds of " + cell, x.weeds(bit(cell), 60, what), NONE);
                b.beyond("weeds of 28 and " + cell, x.weeds(bit(28) | bit(cell), 60, what), NONE);
            }
            b.beyond("weeds(-1)", x.weeds(-1, 60, what), NONE);
            b.beyond("weeds(most)", x.weeds(Long.MAX_VALUE, 60, what), NONE);
        }
        // By none: a STORM that is there already.
        x.sow(1, 0);
        x.days(2);
        for (int what = 0; what <= 1; what++) {
            b.beyond("a STORM blows there", x.weeds(bit(0), 1, what), NONE);
        }

        b.terms(4, "WEEDS for a set of CELLS and n (1 .. 60) DAYS:");
        StormSeeds y = land(5, 4, "kind 1 lasts 1 spread 0;kind 20 lasts 1 spread 0;");
        y.sow(0, 0);
        tell(y, 3, "on 58 sow 0 at 28;on 59 sow 0 at 27;");
        b.inside("one DAY is calm", y.weeds(bit(0), 1, 0), 0);
        b.inside("two are not", y.weeds(bit(0), 2, 0), 1);
        b.inside("59 are calm", y.weeds(bit(28), 59, 0), 0);
        b.beyond("the 60th is not, and no SEED is there to be weeded", y.weeds(bit(28), 60, 0), NONE);
        b.inside("60 are calm elsewhere", y.weeds(bit(27), 60, 0), 0);
        b.beyond("61", y.weeds(bit(27), 61, 0), NONE);
        b.beyond("none", y.weeds(bit(27), 0, 0), NONE);
    }

    private void weedsOfTen() {
        b.terms(4, "the fewest SEEDS (of 10 at most that there are) to be weeded now");
        for (int seeds = 0; seeds <= 12; seeds++) {
            StormSeeds x = land(7, 7, SHORT);
            long all = 0;
            for (int i = 0; i < seeds; i++) {
                int cell = i < 6 ? 8 * i + 6 : 54 - (i - 6);
                x.sow(0, cell);
                all |= bit(cell);
            }
            b.given("SEEDS", x.look(8), seeds);
            b.side(seeds <= 10, seeds + " SEEDS: how many", x.weeds(all, 2, 0), seeds <= 10 ? seeds : NONE);
            b.side(seeds <= 10, seeds + " SEEDS: the set", x.weeds(all, 2, 1), seeds <= 10 ? all : NONE);
            b.side(seeds <= 10, seeds + " SEEDS, none to be weeded", x.weeds(all, 1, 0), seeds <= 10 ? 0 : NONE);
            b.side(seeds <= 10, seeds + " SEEDS, no CELLS", x.weeds(0, 60, 1), seeds <= 10 ? 0 : NONE);
            if (seeds > 0) {
                b.side(seeds <= 10, seeds + " SEEDS, the first one's", x.weeds(bit(6), 2, 1), seeds <= 10 ? bit(6) : NONE);
            }
        }
        // STORMS are no SEEDS.
        StormSeeds x = land(7, 7, "kind 1 lasts 9 spread 0;");
        for (int i = 0; i < 7; i++) {
            x.sow(0, i);
            x.sow(0, 8 + i);
        }
        b.beyond("14 SEEDS", x.weeds(0, 1, 0), NONE);
        x.days(2);
        b.inside("14 STORMS", x.weeds(bit(54), 60, 0), 0);
    }

    private void weedsOfSeveral() {
        b.terms(4, "how many; the set (of several the least).");
        // A SEED of 9 comes up only beside a STORM: either one of all its neighbours and itself, the least of these.
        StormSeeds x = land(5, 4, SHORT);
        tell(x, 1, "gust 0 when edge=0 and beside<2;gust 1;");
        x.sow(0, 9);
        x.sow(0, 1);
        x.sow(0, 8);
        b.inside("one of three", x.weeds(bit(9), 2, 0), 1);
        b.inside("the least of three", x.weeds(bit(9), 2, 1), bit(1));
        x.weed(1);
        b.beyond("none is needed then", x.weeds(bit(9), 2, 1), 0);
        x.sow(0, 1);
        b.inside("of two CELLS", x.weeds(bit(9) | bit(1), 2, 1), bit(1));
        b.inside("of two others", x.weeds(bit(9) | bit(8), 2, 1), bit(8));
        b.inside("of three CELLS", x.weeds(bit(9) | bit(8) | bit(1), 2, 1), bit(1) | bit(8));
        tell(x, 1, "gust 0 when edge=0 and beside<3;gust 1;");
        x.sow(0, 17);
        x.sow(0, 10);
        b.beyond("three of them are beside it, but not all at once", x.weeds(bit(9), 2, 1), 0);
        // Both 1 and 8 together would be a lesser set than 9 alone, but not the fewest.
        StormSeeds y = land(5, 4, SHORT);
        tell(y, 1, "gust 0 when edge=0 and beside<1;gust 1;");
        y.sow(0, 9);
        y.sow(0, 1);
        y.sow(0, 8);
        b.inside("the fewest ahead of the least", y.weeds(bit(9), 2, 1), bit(9));
        b.inside("one alone", y.weeds(bit(9), 2, 0), 1);
    }

    private void calm() {
        b.promise(27, "CALM what 0 how long, 1 the first DAY (NONE). NONE if one can't be, or another what.");
        StormSeeds x = land(5, 4, "kind 1 lasts 9 spread 0;");
        x.days(3);
        for (int n : new int[] {1, 2, 59, 60}) {
            b.inside("calm(28, " + n + ", 0)", x.calm(28, n, 0), n);
            b.inside("calm(28, " + n + ", 1)", x.calm(28, n, 1), 3);
        }
        for (int what = 0; what <= 1; what++) {
            for (int n : NO_DAYS) {
                b.beyond("calm(28, " + n + ", " + what + ")", x.calm(28, n, what), NONE);
            }
            for (int cell : NO_CELLS) {
                b.beyond("calm(" + cell + ", 60, " + what + ")", x.calm(cell, 60, what), NONE);
            }
        }
        for (int what : new int[] {-1, 2, 3, LEAST, MOST}) {
            b.beyond("calm(28, 60, " + what + ")", x.calm(28, 60, what), NONE);
        }
        x.sow(0, 28);
        x.days(1);
        for (int n = 1; n <= 9; n++) {
            b.beyond("never calm in " + n + " DAYS", x.calm(28, n, 0), 0);
            b.beyond("no first DAY", x.calm(28, n, 1), NONE);
        }
        b.inside("calm on the 10th", x.calm(28, 10, 0), 1);
        b.inside("its DAY", x.calm(28, 10, 1), 13);
    }

    private void calmRows() {
        b.terms(4, "CALM of a CELL in n (1 .. 60) DAYS: the longest row of DAYS without a STORM there (behind (c)); the first DAY of it.");
        StormSeeds x = land(5, 4, SHORT);
        tell(x, 3, "on 1 sow 0 at 9;on 4 sow 0 at 9;on 8 sow 0 at 9;on 58 sow 0 at 9;");
        // STORMS on DAYS 2, 5, 9 and 59: rows of 2 (0, 1), 2 (3, 4), 3 (6 .. 8), 49 (10 .. 58).
        int[][] due = {{1, 1, 0}, {2, 2, 0}, {3, 2, 0}, {4, 2, 0}, {5, 2, 0}, {8, 2, 0}, {9, 3, 6}, {13, 3, 6}, {14, 4, 10}, {59, 49, 10}, {60, 49, 10}};
        for (int[] d : due) {
            b.inside("calm(9, " + d[0] + ", 0)", x.calm(9, d[0], 0), d[1]);
            b.inside("calm(9, " + d[0] + ", 1)", x.calm(9, d[0], 1), d[2]);
        }
        b.inside("elsewhere", x.calm(8, 60, 0), 60);
        b.beyond("61 DAYS", x.calm(9, 61, 0), NONE);
        x.days(2);
        b.beyond("a STORM on this DAY alone", x.calm(9, 1, 0), 0);
        b.beyond("no first DAY of it", x.calm(9, 1, 1), NONE);
        b.inside("the next DAY", x.calm(9, 2, 1), 3);
    }
}
