/** Promises 14 to 16 and 24 to 26: kinds, crossings, gusts, generations, who sowed. */
public final class KindsTest {
    private static final Check CHECK = new Check();
    private static final int NONE = StormSeeds.NONE;

    public static void main(String[] args) {
        kindsAreSeen();
        crossingsAreSeen();
        gustsAreAsked();
        lawsAreReckoned();
        kindsAreHad();
        generationsAreCounted();
        whoSowed();
        CHECK.end();
    }

    private static void kindsAreSeen() {
        StormSeeds x = new StormSeeds();
        CHECK.due("promise 14: there is none", x.kind(0, 0), NONE);
        CHECK.text(x, 0, "kind 1 lasts 9 spread 6;kind 20 lasts 1 spread 0;", 2);
        x.sow(0, 0);
        x.sow(0, 1);
        x.sow(1, 2);
        x.days(2);
        x.sow(0, 3);
        x.sow(1, 4);
        int[][] due = {{1, 9, 6, 1, 2}, {20, 1, 0, 2, 0}};
        for (int kind = 0; kind < 2; kind++) {
            for (int what = 0; what < 5; what++) {
                CHECK.due("promise 14: kind(" + kind + ", " + what + ")", x.kind(kind, what), due[kind][what]);
            }
        }
        CHECK.due("promise 14: another what", x.kind(0, 5), NONE);
        CHECK.due("promise 14: what -1", x.kind(0, -1), NONE);
        CHECK.due("promise 14: no such KIND", x.kind(2, 0), NONE);
        CHECK.due("promise 14: KIND -1", x.kind(-1, 3), NONE);
    }

    private static void crossingsAreSeen() {
        StormSeeds x = new StormSeeds();
        CHECK.text(x, 0, "kind 1 lasts 1 spread 0;kind 1 lasts 1 spread 0;kind 1 lasts 1 spread 0;"
                + "cross 2 with 1 to 0;cross 1 with 2 to 1;cross 2 with 2 to 2;", 6);
        CHECK.due("promise 15: the first one", x.cross(2, 1), 0);
        CHECK.due("promise 15: in whatever order", x.cross(1, 2), 0);
        CHECK.due("promise 15: alike ones", x.cross(2, 2), 2);
        CHECK.due("promise 15: to none", x.cross(1, 1), NONE);
        CHECK.due("promise 15: none such", x.cross(3, 1), NONE);
        CHECK.due("promise 15: -1", x.cross(-1, -1), NONE);
    }

    private static void gustsAreAsked() {
        StormSeeds x = new StormSeeds();
        CHECK.text(x, 0, "kind 1 lasts 9 spread 0;kind 3 lasts 1 spread 0;", 2);
        int[] due = {1, 1, 2, 2, 3, 3, 4, 4, 5, 5};
        for (int wet = 0; wet < 10; wet++) {
            x.set(1, 9, wet);
            CHECK.due("promise 16: without a line, WET " + wet, x.gust(1, 9, 0), due[wet]);
        }
        CHECK.text(x, 1, "harm 9;gust soil;", 2);
        CHECK.due("promise 16: soil is n", x.gust(0, 0, 7), 7);
        CHECK.due("promise 16: held to 9", x.gust(0, 0, 99), 9);
        CHECK.due("promise 16: n 0", x.gust(0, 0, 0), 0);
        CHECK.due("promise 16: n 100", x.gust(0, 0, 100), NONE);
        CHECK.due("promise 16: n -1", x.gust(0, 0, -1), NONE);
        CHECK.due("promise 16: no such KIND", x.gust(2, 0, 1), NONE);
        CHECK.due("promise 16: KIND -1", x.gust(-1, 0, 1), NONE);
        CHECK.due("promise 16: no such CELL", x.gust(0, 37, 1), NONE);
        CHECK.due("promise 16: CELL -1", x.gust(0, -1, 1), NONE);
        CHECK.text(x, 1, "gust 0-soil;", 1);
        CHECK.due("promise 16: held to 0", x.gust(0, 0, 5), 0);
    }

    /** The gust of KIND 1 at CELL 9, soil 6; WET 5, DAY 4, STORMS of GUST 2 at 9 and 10, HEDGES at 1, 8, 17. */
    private static void law(String text, int want) {
        StormSeeds x = new StormSeeds();
        CHECK.text(x, 0, "kind 1 lasts 9 spread 0;kind 3 lasts 1 spread 0;", 2);
        CHECK.text(x, 1, "gust 2;", 1);
        x.sow(0, 9);
        x.sow(0, 10);
        x.days(4);
        x.set(1, 9, 5);
        x.set(2, 1, 1);
        x.set(2, 8, 1);
        x.set(2, 17, 1);
        Check.put(x, text);
        CHECK.due("text(1) of " + text, x.text(1) > 0 ? 1 : 0, 1);
        CHECK.due("promise 16: by " + text, x.gust(1, 9, 6), want);
    }

    private static void lawsAreReckoned() {
        law("gust kind;", 1);
        law("gust wet;", 5);
        law("gust soil;", 6);
        law("gust beside;", 1);
        law("gust day;", 4);
        law("gust edge;", 0);
        law("gust hedges;", 3);
        law("gust storm;", 2);
        law("gust wet*soil-day*7+kind;", 3);
        law("gust wet-soil-day+9;", 4);
        law("gust 9-wet-soil+day;", 2);
        law("gust wet*9/4/2*2-5;", 5);
        law("gust wet-soil/4+soil*9/27;", 6);
        law("gust 7-9/4*2;", 3);
        law("gust 4096*4096*256+4;", 4);
        law("gust 4096*4096*128;", 0);
        law("gust 7 when 4096*4096*128<0;", 7);
        law("gust 9-6*3/4*1-3;", 2);
        law("harm 7;gust 4;", 4);
        law("harm 7;", 3);
        law("gust 1 when wet<5;gust 2 when wet>5;gust 3 when wet=5;gust 4;", 3);
        law("gust 1 when wet<5;gust 2 when wet>5;", 3);
        law("gust 1 when wet=5;gust 2 when wet=5;", 1);
        law("gust 1;gust 2 when wet=5;", 1);
        law("gust 9 when 1=1 or 1=1 and 1=2;gust 4;", 9);
        law("gust 9 when 1=2 and 1=1 or 1=1;gust 4;", 9);
        law("gust 9 when (1=1 or 1=1) and 1=2;gust 4;", 4);
        law("gust 9 when not 1=2 and 1=2;gust 4;", 4);
        law("gust 9 when not (1=2 and 1=2);gust 4;", 9);
        law("gust 9 when not not not 1=2;gust 4;", 9);
        law("gust 9 when not 1=1;gust 4;", 4);
        law("gust 9 when not not not 1=1;gust 4;", 4);
        law("gust 9 when 1<2 and 2=2 and 3>2;gust 4;", 9);
        law("gust 9 when 1=2 and (1=1);gust 4;", 4);
        law("gust 9 when 2<1 or 2<2 or 1>2 or 2>2;gust 4;", 4);
        law("gust 9 when 1=2 or 1=2 or 2=2 and 3=3 and 4=5 or 6=6;gust 4;", 9);
        law("gust 9 when 1=2 or 1=2 or 2=2 and 3=3 and 4=5;gust 4;", 4);
        law("gust 9 when ((1=1 or not 1=1) and (1=2 or (2=2 and not 1=2)));gust 4;", 9);
        law("gust 8 when wet-soil<0-0;gust 4;", 8);
        law("gust 0-3/2+3;", 2);
        law("gust 7/1;", 7);
        law("gust kind-soil/4*3-5+9;", 2);
        division();
        stormIsGone();
        edges();
    }

    /** A T begins with a U, so a negative one comes of a product that wraps. */
    private static void division() {
        StormSeeds x = new StormSeeds();
        CHECK.text(x, 0, "kind 1 lasts 9 spread 0;", 1);
        int product = 7000 * 7000 * 60;
        for (int by : new int[] {1000, 9999}) {
            int rest = -(product / by);
            int high = rest / 1000;
            CHECK.text(x, 1, "gust 5+7000*7000*60/" + by + "+" + high + "*1000+" + rest % 1000 + ";", 1);
            CHECK.due("promise 16: " + product + " by " + by + " goes towards 0", x.gust(0, 0, 0), 5);
        }
        CHECK.due("such a product is negative", product < 0 ? 1 : 0, 1);
    }

    private static void stormIsGone() {
        StormSeeds x = new StormSeeds();
        CHECK.text(x, 0, "kind 1 lasts 2 spread 0;", 1);
        CHECK.text(x, 1, "gust 4+storm;", 1);
        x.sow(0, 9);
        x.days(2);
        CHECK.due("promise 16: storm is the GUST there", x.gust(0, 9, 0), 8);
        CHECK.due("promise 16: storm is not beside", x.gust(0, 10, 0), 4);
        x.days(1);
        CHECK.due("promise 16: storm is 0 without one", x.gust(0, 9, 0), 4);
    }

    private static void edges() {
        StormSeeds x = new StormSeeds();
        x.land(4, 3);
        CHECK.text(x, 0, "kind 1 lasts 9 spread 0;", 1);
        CHECK.text(x, 1, "gust edge;", 1);
        for (int y = 0; y < 3; y++) {
            for (int column = 0; column < 4; column++) {
                boolean inside = y == 1 && (column == 1 || column == 2);
                CHECK.due("promise 16: edge of " + (8 * y + column), x.gust(0, 8 * y + column, 0), inside ? 0 : 1);
            }
        }
    }

    private static void kindsAreHad() {
        StormSeeds x = new StormSeeds();
        CHECK.due("promise 24: none of none", x.have(0), 0);
        CHECK.due("promise 24: no such KIND", x.have(1), NONE);
        CHECK.text(x, 0, "kind 1 lasts 1 spread 0;".repeat(8)
                + "cross 4 with 4 to 5;cross 3 with 0 to 4;cross 0 with 1 to 2;cross 0 with 1 to 3;cross 6 with 0 to 7;", 13);
        CHECK.due("promise 24: at last, by all lines", x.have(3), 0x3F);
        CHECK.due("promise 24: one alone", x.have(1), 1);
        CHECK.due("promise 24: alike ones", x.have(16), 48);
        CHECK.due("promise 24: of none comes none", x.have(0), 0);
        CHECK.due("promise 24: all", x.have(255), 255);
        CHECK.due("promise 24: the 9th KIND", x.have(256), NONE);
        CHECK.due("promise 24: all bits", x.have(-1), NONE);
        CHECK.due("promise 24: the highest bit", x.have(Integer.MIN_VALUE), NONE);
        CHECK.text(x, 0, "kind 1 lasts 1 spread 0;", 1);
        CHECK.due("promise 24: no more than one KIND", x.have(2), NONE);
    }

    private static void generationsAreCounted() {
        StormSeeds x = new StormSeeds();
        CHECK.text(x, 0, "kind 1 lasts 1 spread 0;".repeat(8)
                + "cross 4 with 4 to 5;cross 3 with 0 to 4;cross 0 with 1 to 2;cross 0 with 1 to 3;cross 5 with 5 to 6;cross 6 with 6 to 7;", 14);
        int[] due = {0, 0, 1, 1, 2, 3, 4, 5};
        for (int kind = 0; kind < 8; kind++) {
            CHECK.due("promise 25: of KIND " + kind, x.generations(3, kind), due[kind]);
        }
        CHECK.due("promise 25: never", x.generations(1, 2), NONE);
        CHECK.due("promise 25: of none", x.generations(0, 0), NONE);
        CHECK.due("promise 25: no such KIND", x.generations(3, 8), NONE);
        CHECK.due("promise 25: KIND -1", x.generations(3, -1), NONE);
        CHECK.due("promise 25: no set of KINDS", x.generations(257, 0), NONE);
        CHECK.text(x, 0, "kind 1 lasts 1 spread 0;".repeat(8) + "cross 0 with 0 to 1;cross 1 with 1 to 2;cross 2 with 2 to 3;"
                + "cross 3 with 3 to 4;cross 4 with 4 to 5;cross 5 with 5 to 6;cross 6 with 6 to 7;", 15);
        CHECK.due("promise 25: seven generations", x.generations(1, 7), 7);
        CHECK.due("promise 24: in seven generations", x.have(1), 255);
    }

    private static void whoSowed() {
        StormSeeds x = new StormSeeds();
        CHECK.due("promise 26: without KINDS none", x.who(0, 1, 0), 0);
        CHECK.due("promise 26: no first", x.who(0, 1, 1), NONE);
        CHECK.text(x, 0, "kind 20 lasts 1 spread 0;kind 4 lasts 1 spread 0;", 2);
        CHECK.text(x, 1, "gust 3 when kind=1 and soil>9;gust 5 when soil=3;gust 3 when soil>29;gust 4;", 4);
        CHECK.due("promise 26: how many", x.who(9, 3, 0), 1 + 21);
        CHECK.due("promise 26: KIND by KIND", x.who(9, 3, 1), 0);
        CHECK.due("promise 26: 30 DAYS ago", x.who(9, 3, 2), 30);
        CHECK.due("promise 26: of both KINDS", x.who(9, 4, 0), 10 + 6);
        CHECK.due("promise 26: its SOIL ago at least", x.who(9, 4, 2), 20);
        CHECK.due("promise 26: less than its SOIL", x.who(9, 5, 0), 0);
        CHECK.due("promise 26: none is first", x.who(9, 5, 1), NONE);
        CHECK.due("promise 26: nor ago", x.who(9, 5, 2), NONE);
        CHECK.text(x, 1, "gust 1 when kind=0;gust 2;", 2);
        CHECK.due("promise 26: the second KIND", x.who(9, 2, 1), 1);
        CHECK.due("promise 26: the fewest DAYS", x.who(9, 2, 2), 4);
        CHECK.due("promise 26: v 0", x.who(9, 0, 0), NONE);
        CHECK.due("promise 26: v 10", x.who(9, 10, 0), NONE);
        CHECK.due("promise 26: no such CELL", x.who(5, 1, 0), NONE);
        CHECK.due("promise 26: CELL -1", x.who(-1, 1, 0), NONE);
        CHECK.due("promise 26: another what", x.who(9, 1, 3), NONE);
        CHECK.due("promise 26: what -1", x.who(9, 1, -1), NONE);
    }
}
