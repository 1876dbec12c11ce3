/** Terms, part 2, and the promises 16 and 26: gust and harm by THE LAW, and who sowed by a gust. */
final class LawBounds {
    private static final int LEAST = Integer.MIN_VALUE;
    private static final int MOST = Integer.MAX_VALUE;
    private static final int NONE = StormSeeds.NONE;
    private static final String MINUS_2_TO_31 = "8192*8192*32";

    private final Bounds b;

    LawBounds(Bounds b) {
        this.b = b;
    }

    void ask() {
        gustIsHeld();
        harmIsHeld();
        withoutALine();
        firstLine();
        intsWrap();
        partsGoTowardsNothing();
        comparisons();
        daysInTheSoil();
        besideAndHedges();
        dayEdgeKind();
        stormThere();
        gusts();
        who();
        whoSinceItsSoil();
    }

    /** One KIND that comes up after a day and blows for nine. */
    private StormSeeds ready(String law) {
        StormSeeds x = new StormSeeds();
        Check.put(x, "kind 1 lasts 9 spread 0;kind 2 lasts 9 spread 0;");
        b.given("text(0)", x.text(0), 2);
        tell(x, law);
        return x;
    }

    private void tell(StormSeeds x, String law) {
        Check.put(x, law);
        b.given("text(1) of " + law, x.text(1) >= 0 ? 1 : 0, 1);
    }

    private int gustBy(String law) {
        return ready(law).gust(0, 9, 0);
    }

    /** The harm of a STORM of GUST 5. */
    private int harmBy(String law) {
        StormSeeds x = ready("gust 5;");
        x.sow(0, 9);
        x.days(2);
        b.given("a STORM", x.at(9, 5), 5);
        tell(x, law);
        return x.at(9, 9);
    }

    private void gustIsHeld() {
        b.terms(2, "gust held to 0 .. 9");
        for (int gust = 0; gust <= 9; gust++) {
            b.inside("gust " + gust, gustBy("gust " + gust + ";"), gust);
        }
        for (String e : new String[] {"0-1", "0-9999", MINUS_2_TO_31, "0-" + MINUS_2_TO_31}) {
            b.beyond("gust " + e, gustBy("gust " + e + ";"), 0);
        }
        for (String e : new String[] {"10", "11", "99", "100", "9999", MINUS_2_TO_31 + "-1", "256+1", "4096*4096+1"}) {
            b.beyond("gust " + e, gustBy("gust " + e + ";"), 9);
        }
        // So of what comes up, too.
        int[][] sown = {{0, 0}, {1, 1}, {9, 9}, {10, 9}, {9999, 9}};
        for (int[] s : sown) {
            StormSeeds x = ready("gust " + s[0] + ";");
            x.sow(0, 9);
            b.side(s[0] >= 1 && s[0] <= 9, "days(2) by gust " + s[0], x.days(2), s[1] == 0 ? 0 : 1);
            b.side(s[0] >= 1 && s[0] <= 9, "its GUST", x.at(9, 5), s[1]);
        }

        b.terms(1, "GUST 1 .. 9");
        for (int gust = 0; gust <= 10; gust++) {
            StormSeeds x = ready("gust " + gust + ";");
            x.sow(0, 9);
            x.days(2);
            b.side(gust >= 1 && gust <= 9, "GUST by " + gust, x.at(9, 5), Math.min(9, gust));
            b.side(gust >= 1 && gust <= 9, "a STORM by " + gust, x.at(9, 4), gust == 0 ? NONE : 0);
        }
    }

    private void harmIsHeld() {
        b.terms(2, "harm to 0 .. 99:");
        for (int harm : new int[] {0, 1, 50, 98, 99}) {
            b.inside("harm " + harm, harmBy("harm " + harm + ";"), harm);
        }
        for (String e : new String[] {"0-1", "0-99", MINUS_2_TO_31}) {
            b.beyond("harm " + e, harmBy("harm " + e + ";"), 0);
        }
        for (String e : new String[] {"100", "101", "256", "9999", MINUS_2_TO_31 + "-1"}) {
            b.beyond("harm " + e, harmBy("harm " + e + ";"), 99);
        }
        // HARM is what is held, cell by cell.
        for (int harm : new int[] {98, 99, 100, 9999}) {
            StormSeeds x = ready("harm " + harm + ";");
            x.sow(0, 0);
            x.sow(0, 9);
            x.days(2);
            b.side(harm <= 99, "HARM of two by " + harm, x.look(5), 2 * Math.min(99, harm));
        }
        StormSeeds x = ready("gust 5;harm 0-50 when day=1;harm 50;");
        x.sow(0, 9);
        x.days(2);
        b.beyond("HARM by less than 0", x.look(5), 0);
        x.days(1);
        b.inside("HARM then", x.look(5), 50);
    }

    private void withoutALine() {
        b.terms(2, "(none: gust: 1 and wet by 2, harm: storm)");
        int[] due = {1, 1, 2, 2, 3, 3, 4, 4, 5, 5};
        String[] laws = {"", "harm 7;", "gust 7 when 1=2;", "gust 7 when wet>9;harm 9;gust 8 when wet<0;"};
        for (String law : laws) {
            for (int wet = 0; wet <= 9; wet++) {
                StormSeeds x = ready(law);
                x.set(1, 9, wet);
                b.inside("gust with WET " + wet + " by " + law, x.gust(0, 9, 0), due[wet]);
                b.inside("so at each soil", x.gust(1, 9, 99), due[wet]);
            }
        }
        b.beyond("gust by a line", gustBy("gust 7 when 1=1;"), 7);
        b.beyond("gust by a line without when", gustBy("gust 7;"), 7);
        for (int gust = 1; gust <= 9; gust++) {
            for (String law : new String[] {"", "gust 7;", "harm 7 when 1=2;"}) {
                StormSeeds x = ready("gust " + gust + ";");
                x.sow(0, 9);
                x.days(2);
                tell(x, law);
                b.inside("harm of GUST " + gust + " by " + law, x.at(9, 9), gust);
            }
        }
        b.beyond("harm by a line", harmBy("harm 7 when 1=1;"), 7);
        b.beyond("harm by a line without when", harmBy("harm 7;"), 7);
    }

    private void firstLine() {
        b.terms(2, "E of the first line with that word whose B is so, or that has none");
        b.inside("the first of sixteen", gustBy("gust 1;" + "gust 2;".repeat(15)), 1);
        b.inside("the last of sixteen", gustBy("gust 2 when 1=2;".repeat(15) + "gust 3;"), 3);
        b.inside("the last of sixteen, so", gustBy("gust 2 when 1=2;".repeat(15) + "gust 3 when 1=1;"), 3);
        b.beyond("none of sixteen is so", gustBy("gust 5 when 1=2;".repeat(16)), 2);
        b.inside("behind lines of the other word", gustBy("harm 2;".repeat(15) + "gust 3;"), 3);
        b.beyond("lines of the other word alone", gustBy("harm 5;".repeat(16)), 2);
        b.inside("harm, behind lines of the other word", harmBy("gust 2;".repeat(15) + "harm 3;"), 3);
        b.beyond("harm, lines of the other word alone", harmBy("gust 2;".repeat(16)), 5);
        // The greatest text, told again and again, stands as it did the first time.
        StormSeeds x = ready("");
        for (int i = 0; i < 12; i++) {
            tell(x, "gust 9 when " + "1=2 or ".repeat(52) + "2=2;");
            b.inside("the greatest condition, " + i, x.gust(0, 9, 0), 9);
        }
        b.inside("one that is so ahead of one without when", gustBy("gust 4 when 1=1;gust 5;"), 4);
        b.inside("one without when ahead of one that is so", gustBy("gust 4;gust 5 when 1=1;"), 4);
    }

    private boolean isSo(String condition) {
        return gustBy("gust 1 when " + condition + ";gust 0;") == 1;
    }

    private void intsWrap() {
        b.terms(2, "Ints, which wrap;");
        b.inside("2 to the 30", isSo("8192*8192*16>0"));
        b.inside("2 to the 31, less 1", isSo("8192*8192*32-1>0"));
        b.beyond("2 to the 31", isSo("8192*8192*32>0"));
        b.inside("2 to the 31 is below 0", isSo("8192*8192*32<0"));
        b.inside("its opposite is itself", isSo("0-8192*8192*32=8192*8192*32"));
        b.inside("the most and 1 is the least", isSo("8192*8192*32-1+1=8192*8192*32"));
        b.inside("2 to the 32 is 0", isSo("8192*8192*64=0"));
        b.inside("2 to the 32 and 7", isSo("8192*8192*64+7=7"));
        b.inside("9999 to the 3rd", isSo("9999*9999*9999=0-9999*9999*10-9999*2755-2714"));
        b.inside("9999 times itself", isSo("9999*9999=9998*9999+9999"));
        b.beyond("9999 times itself wraps not", isSo("9999*9999<0"));
        b.inside("9999 times 9999 times 22 wraps", isSo("9999*9999*22<0"));
        b.beyond("9999 times 9999 times 21 does not", isSo("9999*9999*21<0"));
    }

    private void partsGoTowardsNothing() {
        b.terms(2, "/ goes towards 0.");
        b.inside("7/2", gustBy("gust 7/2;"), 3);
        b.inside("8/2", gustBy("gust 8/2;"), 4);
        b.inside("1/2", gustBy("gust 1/2;"), 0);
        b.inside("9999/9999", gustBy("gust 9999/9999;"), 1);
        b.inside("9998/9999", gustBy("gust 9998/9999;"), 0);
        b.inside("0/9999", gustBy("gust 0/9999;"), 0);
        // - 2 to the 31 by 9999 is - 214769.9..: towards 0 it is -214769, downwards -214770.
        b.inside("below 0", isSo(MINUS_2_TO_31 + "/9999+21*9999+4790=0"));
        b.beyond("below 0 not downwards", isSo(MINUS_2_TO_31 + "/9999+21*9999+4791=0"));
        b.inside("below 0 without a rest", isSo(MINUS_2_TO_31 + "/8192=0-8192*32"));
        b.inside("by 1", isSo(MINUS_2_TO_31 + "/1=" + MINUS_2_TO_31));
        b.inside("one by one", isSo("9*9/2/2*2=40"));

        b.terms(0, "Quotients go downwards but where it is said.");
        StormSeeds x = ready("");
        x.set(1, 9, 7);
        b.inside("1 and 7 by 2", x.gust(0, 9, 0), 4);
        b.inside("1 and 8 by 2", x.set(1, 9, 8) ? x.gust(0, 9, 0) : 0, 5);
        b.inside("GOOD", x.good(2, 1), 998001);
        b.beyond("GOOD, downwards", x.good(3, 1), 997002);
    }

    private void comparisons() {
        b.terms(2, "C = E (< | = | >) E | not C | ( B ).");
        int[][] couples = {{0, 0}, {0, 1}, {1, 0}, {9998, 9999}, {9999, 9999}, {9999, 9998}};
        for (int[] c : couples) {
            sideOf(c[0] < c[1], c[0] + "<" + c[1]);
            sideOf(c[0] == c[1], c[0] + "=" + c[1]);
            sideOf(c[0] > c[1], c[0] + ">" + c[1]);
            sideOf(c[0] >= c[1], "not " + c[0] + "<" + c[1]);
            sideOf(c[0] <= c[1], "not(" + c[0] + ">" + c[1] + ")");
        }
        sideOf(true, "0-1<0");
        sideOf(false, "0-1>0");
        sideOf(true, MINUS_2_TO_31 + "<" + MINUS_2_TO_31 + "-1");
        sideOf(false, MINUS_2_TO_31 + ">" + MINUS_2_TO_31 + "-1");

        b.terms(2, "B = A {or A}. A = C {and C}.");
        String[] values = {"1=2", "1=1"};
        for (int i = 0; i < 8; i++) {
            boolean p = (i & 1) != 0;
            boolean q = (i & 2) != 0;
            boolean r = (i & 4) != 0;
            String a = values[i & 1];
            String c = values[i >> 1 & 1];
            String d = values[i >> 2];
            sideOf(p || q && r, a + " or " + c + " and " + d);
            sideOf(p && q || r, a + " and " + c + " or " + d);
            sideOf((p || q) && r, "(" + a + " or " + c + ") and " + d);
            sideOf(!p && q || r, "not " + a + " and " + c + " or " + d);
            sideOf(!(p && q || r), "not (" + a + " and " + c + " or " + d + ")");
        }
    }

    private void sideOf(boolean is, String condition) {
        b.side(is, condition, isSo(condition) ? 1 : 0, is ? 1 : 0);
    }

    private void daysInTheSoil() {
        b.terms(2, "soil: how many DAYS its SEED lay there (harm: 0);");
        StormSeeds x = ready("gust soil;");
        for (int n = 0; n <= 9; n++) {
            b.inside("gust(0, 9, " + n + ")", x.gust(0, 9, n), n);
        }
        tell(x, "gust soil-90;");
        b.inside("soil 98", x.gust(0, 9, 98), 8);
        b.inside("soil 99", x.gust(0, 9, 99), 9);
        for (int soil : new int[] {1, 2, 19, 20}) {
            StormSeeds y = new StormSeeds();
            b.given(y, 0, "kind " + soil + " lasts 9 spread 0;", 1);
            b.given(y, 1, "gust 7 when soil=" + soil + ";gust 1;harm 3 when soil=0;harm 9;", 4);
            y.days(5);
            y.sow(0, 9);
            y.days(soil + 1);
            b.inside("GUST of a SEED of SOIL " + soil, y.at(9, 5), 7);
            b.beyond("harm: soil is 0", y.at(9, 9), 3);
            y.sow(0, 9);
            y.days(1);
            b.beyond("harm with a SEED there", y.at(9, 9), 3);
            b.beyond("HARM", y.look(5), 6);
        }
    }

    private void besideAndHedges() {
        b.terms(2, "beside: how many of the four CELLS beside it have a STORM;");
        int[] cells = {1, 8, 10, 17};
        StormSeeds x = ready("gust beside;");
        b.beyond("none", x.gust(0, 9, 0), 0);
        tell(x, "gust 1;");
        for (int cell : cells) {
            x.sow(0, cell);
        }
        tell(x, "gust beside;");
        b.beyond("SEEDS alone", x.gust(0, 9, 0), 0);
        tell(x, "gust 1;");
        x.sow(0, 9);
        x.sow(0, 0);
        x.sow(0, 18);
        x.days(2);
        tell(x, "gust beside;");
        b.inside("all four", x.gust(0, 9, 0), 4);
        b.inside("a corner of the land", x.gust(0, 0, 0), 2);
        b.beyond("far from all", x.gust(0, 28, 0), 0);

        b.terms(2, "hedges: how many of the four beside have a HEDGE;");
        StormSeeds y = ready("gust hedges;");
        b.beyond("none", y.gust(0, 9, 0), 0);
        y.set(2, 9, 1);
        y.set(2, 0, 1);
        y.set(2, 2, 1);
        y.set(2, 16, 1);
        y.set(2, 18, 1);
        b.beyond("there and over the corners", y.gust(0, 9, 0), 0);
        for (int i = 0; i < 4; i++) {
            y.set(2, cells[i], 1);
            b.inside("hedges " + (i + 1), y.gust(0, 9, 0), i + 1);
        }
        b.inside("a corner of the land", y.gust(0, 0, 0), 2);
        b.beyond("far from all", y.gust(0, 28, 0), 0);
    }

    private void dayEdgeKind() {
        b.terms(2, "edge: 1, if x or y is the first or the last one, else 0;");
        for (int w = 2; w <= 7; w++) {
            for (int h = 2; h <= 7; h++) {
                StormSeeds x = new StormSeeds();
                x.land(w, h);
                b.given(x, 0, "kind 1 lasts 9 spread 0;", 1);
                b.given(x, 1, "gust edge;", 1);
                for (int y = 0; y < h; y++) {
                    for (int column = 0; column < w; column++) {
                        boolean is = y == 0 || column == 0 || y == h - 1 || column == w - 1;
                        b.side(is, "edge of " + column + ", " + y + " in " + w + " by " + h, x.gust(0, 8 * y + column, 0), is ? 1 : 0);
                    }
                }
                b.beyond("no CELL of it", x.gust(0, w, 0), NONE);
            }
        }

        b.terms(2, "day: DAY;");
        StormSeeds x = ready("gust 7 when day=0;gust 8 when day=999;gust 9 when day>999;gust 1;");
        b.inside("DAY 0", x.gust(0, 9, 0), 7);
        x.days(1);
        b.beyond("DAY 1", x.gust(0, 9, 0), 1);
        for (int i = 0; i < 16; i++) {
            x.days(60);
        }
        x.days(37);
        b.beyond("DAY 998", x.gust(0, 9, 0), 1);
        x.days(1);
        b.inside("DAY 999", x.gust(0, 9, 0), 8);

        b.terms(2, "gust, harm of a KIND at a CELL:");
        StormSeeds y = new StormSeeds();
        b.given(y, 0, "kind 1 lasts 9 spread 0;".repeat(8), 8);
        b.given(y, 1, "gust kind;harm kind*10;", 2);
        for (int kind = 0; kind <= 7; kind++) {
            b.inside("kind of KIND " + kind, y.gust(kind, 0, 0), kind);
        }
        b.beyond("KIND 8", y.gust(8, 0, 0), NONE);
        y.sow(7, 0);
        y.days(2);
        b.inside("harm of KIND 7", y.at(0, 9), 70);
    }

    private void stormThere() {
        b.terms(2, "storm: GUST of the STORM there (0 without one).");
        for (int gust : new int[] {1, 2, 8, 9}) {
            StormSeeds x = ready("gust " + gust + ";");
            x.sow(0, 9);
            x.days(2);
            tell(x, "gust storm;harm 90+storm;");
            b.inside("storm of GUST " + gust, x.gust(1, 9, 0), gust);
            b.inside("in harm", x.at(9, 9), 90 + gust);
            b.beyond("beside it", x.gust(0, 10, 0), 0);
            x.days(7);
            b.inside("on its last DAY", x.gust(1, 9, 0), gust);
            x.days(1);
            b.beyond("behind it", x.gust(1, 9, 0), 0);
        }

        // One that crosses asks with the old STORM there yet, one that comes up alone with none.
        b.terms(3, "its gust (asked then);");
        StormSeeds x = new StormSeeds();
        b.given(x, 0, "kind 1 lasts 9 spread 0;kind 1 lasts 9 spread 0;cross 0 with 1 to 1;", 3);
        b.given(x, 1, "gust 2 when storm=0;gust storm+1;", 2);
        x.sow(0, 9);
        x.days(2);
        b.beyond("without a STORM there", x.at(9, 5), 2);
        x.sow(1, 9);
        x.days(2);
        b.inside("with one: 3, and 1 more", x.at(9, 5), 4);
    }

    private void gusts() {
        b.promise(16, "gust of a KIND at a CELL now, its SEED having lain there n (0 .. 99) DAYS; NONE if one can't be.");
        StormSeeds x = ready("gust 1 when soil<50;gust 2;");
        b.inside("gust(0, 0, 0)", x.gust(0, 0, 0), 1);
        b.inside("gust(0, 0, 99)", x.gust(0, 0, 99), 2);
        b.inside("gust(1, 28, 49)", x.gust(1, 28, 49), 1);
        b.inside("gust(1, 28, 50)", x.gust(1, 28, 50), 2);
        for (int n : new int[] {-1, 100, 101, LEAST, MOST}) {
            b.beyond("gust(0, 0, " + n + ")", x.gust(0, 0, n), NONE);
        }
        for (int kind : new int[] {-1, 2, 7, 8, LEAST, MOST}) {
            b.beyond("gust(" + kind + ", 0, 0)", x.gust(kind, 0, 0), NONE);
        }
        for (int cell : new int[] {-1, 5, 7, 29, 32, 63, 64, LEAST, MOST}) {
            b.beyond("gust(0, " + cell + ", 0)", x.gust(0, cell, 0), NONE);
        }
        b.beyond("without KINDS", new StormSeeds().gust(0, 0, 0), NONE);
        x.set(2, 0, 1);
        b.inside("at a HEDGE", x.gust(0, 0, 0), 1);
        x.sow(1, 1);
        b.inside("where a SEED is", x.gust(0, 1, 0), 1);
    }

    private void who() {
        b.promise(26, "WHO what 0 how many, 1 the KIND of the first, 2 how many DAYS ago. NONE if there is none (1, 2), one can't be, or another what.");
        StormSeeds x = ready("gust 9 when kind=0;gust 1 when soil=30;gust 2;");
        b.inside("who(0, 9, 0)", x.who(0, 9, 0), 30);
        b.inside("who(0, 9, 1)", x.who(0, 9, 1), 0);
        b.inside("who(0, 9, 2)", x.who(0, 9, 2), 1);
        b.inside("who(28, 1, 0)", x.who(28, 1, 0), 1);
        b.inside("who(28, 1, 1)", x.who(28, 1, 1), 1);
        b.inside("who(28, 1, 2)", x.who(28, 1, 2), 30);
        b.inside("none: how many", x.who(0, 5, 0), 0);
        b.beyond("none: KIND", x.who(0, 5, 1), NONE);
        b.beyond("none: DAYS", x.who(0, 5, 2), NONE);
        for (int what = 0; what <= 2; what++) {
            for (int v : new int[] {-1, 0, 10, 11, LEAST, MOST}) {
                b.beyond("who(0, " + v + ", " + what + ")", x.who(0, v, what), NONE);
            }
            for (int cell : new int[] {-1, 5, 29, 32, 64, LEAST, MOST}) {
                b.beyond("who(" + cell + ", 9, " + what + ")", x.who(cell, 9, what), NONE);
            }
        }
        for (int what : new int[] {-1, 3, LEAST, MOST}) {
            b.beyond("who(0, 9, " + what + ")", x.who(0, 9, what), NONE);
            b.beyond("none: who(0, 5, " + what + ")", x.who(0, 5, what), NONE);
        }
        StormSeeds y = new StormSeeds();
        b.inside("without KINDS: how many", y.who(0, 1, 0), 0);
        b.beyond("without KINDS: KIND", y.who(0, 1, 1), NONE);
        b.beyond("without KINDS: DAYS", y.who(0, 1, 2), NONE);

        b.terms(4, "a gust of v (1 .. 9) was at a CELL on this DAY:");
        for (int v = 0; v <= 10; v++) {
            StormSeeds z = ready("gust soil;");
            boolean is = v >= 1 && v <= 9;
            // soil 9 and more are held to 9; KIND 1 lies two DAYS at least.
            int due = !is ? NONE : v == 9 ? 22 + 22 : v == 1 ? 1 : 2;
            b.side(is, "who(9, " + v + ", 0)", z.who(9, v, 0), due);
            b.side(is, "who(9, " + v + ", 2)", z.who(9, v, 2), is ? v : NONE);
        }
    }

    private void whoSinceItsSoil() {
        b.terms(4, "couples of a KIND and a DAY 0 .. 30 ago, its SOIL ago at least, for which gust is v now: how many; the first (KIND by KIND, the fewest DAYS).");
        for (int soil = 1; soil <= 20; soil++) {
            StormSeeds x = new StormSeeds();
            b.given(x, 0, "kind " + soil + " lasts 1 spread 0;", 1);
            b.given(x, 1, "gust 3 when soil<" + soil + ";gust 4 when soil=" + soil + ";gust 5 when soil=30;gust 6 when soil>30;gust 7;", 5);
            b.beyond("ahead of its SOIL " + soil, x.who(9, 3, 0), 0);
            b.inside("its SOIL ago", x.who(9, 4, 0), 1);
            b.inside("how many DAYS", x.who(9, 4, 2), soil);
            b.inside("30 ago", x.who(9, 5, 0), 1);
            b.inside("how many DAYS", x.who(9, 5, 2), 30);
            b.beyond("31 ago", x.who(9, 6, 0), 0);
            b.inside("between", x.who(9, 7, 0), 29 - soil);
            b.inside("the fewest DAYS", x.who(9, 7, 2), soil + 1);
        }
        // A DAY ahead of DAY 0 counts as others do.
        StormSeeds x = ready("gust 4;");
        b.inside("on DAY 0", x.who(9, 4, 0), 30 + 29);
        x.days(60);
        b.inside("on DAY 60", x.who(9, 4, 0), 30 + 29);
        tell(x, "gust 4 when kind=1;gust 5 when soil>29;gust 6;");
        b.inside("KIND by KIND", x.who(9, 4, 1), 1);
        b.inside("its SOIL is two DAYS", x.who(9, 4, 2), 2);
        b.inside("KIND 0", x.who(9, 5, 1), 0);
        b.inside("30 DAYS", x.who(9, 5, 2), 30);
    }
}
