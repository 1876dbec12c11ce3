/** Promises 5 to 8: the tape, the four texts and their faults. */
public final class TextsTest {
    private static final Check CHECK = new Check();
    private static final String KIND = "kind 1 lasts 1 spread 0;";

    public static void main(String[] args) {
        tapeIsFed();
        tapeIsEnded();
        textsAreTold();
        faultsOfKinds();
        faultsOfTheLaw();
        faultsOfWants();
        faultsOfAPlan();
        faultsOfTokens();
        faultIsSeen();
        CHECK.end();
    }

    private static String times(int n, String line) {
        return line.repeat(n);
    }

    private static void tapeIsFed() {
        StormSeeds x = new StormSeeds();
        for (int i = 1; i <= 20; i++) {
            CHECK.due("promise 5: feed " + i, x.feed(-1, i, Integer.MIN_VALUE, 0, Integer.MAX_VALUE), 20 * i);
        }
        CHECK.due("promise 5: the 21st", x.feed(0, 0, 0, 0, 0), StormSeeds.NONE);
        CHECK.yes("promise 5: it has 400 yet", x.end(400));
        CHECK.no("promise 5: nothing came", x.end(401));
        x.end(381);
        CHECK.due("promise 5: 401 would be too many", x.feed(0, 0, 0, 0, 0), StormSeeds.NONE);
        x.end(380);
        CHECK.due("promise 5: 400 are not", x.feed(0, 0, 0, 0, 0), 400);
        x.end(0);
        // "gust", " 4;\n" and three times blanks: the highest byte comes first.
        x.feed(0x67757374, 0x20343b0a, 0x20202020, 0x0a0a0a0a, 0x20202020);
        CHECK.due("promise 5: the highest byte first", x.text(1), 1);
    }

    private static void tapeIsEnded() {
        StormSeeds x = new StormSeeds();
        CHECK.yes("promise 6: end(0) of the empty tape", x.end(0));
        CHECK.no("promise 6: end(1) of it", x.end(1));
        x.feed(0, 0, 0, 0, 0);
        CHECK.no("promise 6: end(-1)", x.end(-1));
        CHECK.no("promise 6: end(21)", x.end(21));
        CHECK.yes("promise 6: end(20)", x.end(20));
        CHECK.yes("promise 6: end(7)", x.end(7));
        CHECK.no("promise 6: end(8) then", x.end(8));
        CHECK.due("promise 6: more comes behind", x.feed(0, 0, 0, 0, 0), 27);
        x.turn(0);
        x.end(3);
        x.feed(0, 0, 0, 0, 0);
        CHECK.due("promise 31: the tape forgets nothing", x.look(15), 1);
    }

    private static void textsAreTold() {
        StormSeeds x = new StormSeeds();
        CHECK.text(x, 0, KIND + "cross 0 with 0 to 0;" + KIND, 3);
        CHECK.due("promise 7: KINDS", x.look(6), 2);
        CHECK.due("promise 7: CROSSINGS", x.look(7), 1);
        CHECK.text(x, 1, "gust 1;harm 2 when kind=1;gust 3;", 3);
        CHECK.text(x, 2, "want 1 at 0 on 0 worth 1;want calm at 28 on 999 worth 99;", 2);
        CHECK.text(x, 3, "on 0 sow 1 at 0;on 999 weed 28;on 5 north;on 5 east;on 5 south;on 5 west;", 6);
        CHECK.no("promise 7: the tape is empty then", x.end(1));
        int[] lines = {3, 2, 6};
        for (int i = 0; i < 3; i++) {
            CHECK.due("promise 7: look(" + (12 + i) + ")", x.look(12 + i), lines[i]);
        }
        x.turn(0);
        CHECK.fault(x, 3, "on 5 up;", 1, 5);
        CHECK.due("promise 7: the text stays as it was", x.look(14), 6);
        CHECK.due("promise 31: a fault forgets nothing", x.look(15), 1);
        CHECK.no("promise 7: the tape is empty at a fault", x.end(1));
        Check.put(x, "gust 7;");
        CHECK.due("promise 7: no such text", x.text(4), StormSeeds.NONE);
        CHECK.due("promise 7: fault() tells 0", x.fault(0), 0);
        CHECK.due("promise 7: at no place", x.fault(1), StormSeeds.NONE);
        CHECK.no("promise 7: the tape is empty", x.end(1));
        CHECK.due("promise 7: text(-1)", x.text(-1), StormSeeds.NONE);
        x.sow(0, 0);
        x.sow(0, 9);
        x.days(1);
        x.sow(1, 1);
        CHECK.fault(x, 0, KIND + "kind 0", 2, 29);
        CHECK.due("promise 7: at a fault SEEDS stay", x.look(8), 3);
        CHECK.due("promise 7: WANTS stay", x.look(13), 2);
        x.days(1);
        CHECK.due("promise 7: STORMS are there", x.look(9), 0);
        x.sow(1, 1);
        CHECK.text(x, 0, "kind 1 lasts 9 spread 0;", 1);
        CHECK.due("promise 7: KINDS told anew, SEEDS are gone", x.look(8), 0);
        CHECK.due("promise 7: WANTS are empty", x.look(13), 0);
        CHECK.due("promise 7: A PLAN is empty", x.look(14), 0);
        CHECK.due("promise 7: THE LAW stays", x.look(12), 3);
        CHECK.due("promise 7: CROSSINGS are those of the text", x.look(7), 0);
        CHECK.due("promise 7: DAY stays", x.look(2), 2);
        CHECK.due("promise 31: KINDS told forget", x.look(15), 0);
        x.sow(0, 0);
        x.days(2);
        CHECK.due("promise 7: a STORM", x.look(9), 1);
        CHECK.text(x, 0, "", 0);
        CHECK.due("promise 7: STORMS are gone", x.look(9), 0);
        CHECK.due("promise 7: at the cell, too", x.at(0, 4), StormSeeds.NONE);
        CHECK.text(x, 1, " \n ", 0);
        CHECK.due("promise 7: THE LAW is empty", x.look(12), 0);
    }

    private static void faultsOfKinds() {
        StormSeeds x = new StormSeeds();
        CHECK.text(x, 0, times(8, KIND), 8);
        CHECK.fault(x, 0, times(8, KIND) + "\n" + KIND, 3, 193);
        CHECK.fault(x, 0, times(8, KIND) + "kind x", 3, 192);
        CHECK.text(x, 0, KIND + times(10, "cross 0 with 0 to 0;"), 11);
        CHECK.fault(x, 0, KIND + times(11, "cross 0 with 0 to 0;"), 3, 224);
        CHECK.text(x, 0, "kind 20 lasts 9 spread 6;", 1);
        CHECK.text(x, 0, "kind 1 lasts 1 spread 0;", 1);
        CHECK.fault(x, 0, "kind 21 lasts 9 spread 6;", 2, 5);
        CHECK.fault(x, 0, "kind 0 lasts 9 spread 6;", 2, 5);
        CHECK.fault(x, 0, "kind 20 lasts 10 spread 6;", 2, 14);
        CHECK.fault(x, 0, "kind 20 lasts 0 spread 6;", 2, 14);
        CHECK.fault(x, 0, "kind 20 lasts 9 spread 7;", 2, 23);
        CHECK.fault(x, 0, KIND + "cross 1 with 0 to 0;", 2, 30);
        CHECK.fault(x, 0, KIND + "cross 0 with 1 to 0;", 2, 37);
        CHECK.fault(x, 0, KIND + "cross 0 with 0 to 1;", 2, 42);
        CHECK.fault(x, 0, "cross 0 with 0 to 0;" + KIND, 2, 6);
        CHECK.fault(x, 0, "want", 1, 0);
        CHECK.fault(x, 0, "kind 1 spread 1 lasts 1;", 1, 7);
        CHECK.fault(x, 0, "kind 1 1 spread 0;", 1, 7);
        CHECK.fault(x, 0, "kind 1 lasts 1 0;", 1, 15);
        CHECK.fault(x, 0, "1 lasts 1 spread 0;", 1, 0);
        CHECK.fault(x, 0, KIND + "cross 0 0 to 0;", 1, 32);
        CHECK.fault(x, 0, KIND + "cross 0 with 0 0;", 1, 39);
        CHECK.fault(x, 0, "kind 1 lasts 1 spread 1", 1, 23);
        CHECK.fault(x, 0, "kind 1 lasts 1 spread 1  \n", 1, 26);
        CHECK.fault(x, 0, ";", 1, 0);
        CHECK.due("promise 7: the last KINDS stay", x.look(6), 1);
    }

    private static void faultsOfTheLaw() {
        StormSeeds x = new StormSeeds();
        CHECK.text(x, 1, times(16, "gust 1;"), 16);
        CHECK.fault(x, 1, times(15, "gust 1;") + "harm 1;gust 1;", 3, 112);
        CHECK.fault(x, 1, "gust 1/0;", 2, 7);
        CHECK.fault(x, 1, "gust 1/0000;", 2, 7);
        CHECK.text(x, 1, "gust 1/0001*9999;", 1);
        CHECK.fault(x, 1, "gust 1/wet;", 1, 7);
        CHECK.fault(x, 1, "gust -1;", 1, 5);
        CHECK.fault(x, 1, "gust (1);", 1, 5);
        CHECK.fault(x, 1, "gust 1 when 1;", 1, 13);
        CHECK.fault(x, 1, "gust 1 when 1<2<3;", 1, 15);
        CHECK.fault(x, 1, "gust 1 when (1<2;", 1, 16);
        CHECK.fault(x, 1, "gust 1 when 1<2);", 1, 15);
        CHECK.fault(x, 1, "gust 1 when;", 1, 11);
        CHECK.fault(x, 1, "gust 1 1=1;", 1, 7);
        CHECK.fault(x, 1, "gust 1 gust 1;", 1, 7);
        CHECK.fault(x, 1, "gust 1 when 1=1 1=1;", 1, 16);
        CHECK.fault(x, 1, "wet;", 1, 0);
        for (int i = 0; i < 9; i++) {
            CHECK.text(x, 1, "gust 9 when " + times(40, "1=2 or ") + "2=2;harm 5;", 2);
        }
        CHECK.text(x, 0, KIND, 1);
        CHECK.due("promise 7: told again and again", x.gust(0, 0, 0), 9);
        CHECK.fault(x, 1, "gust 1+;", 1, 7);
        CHECK.fault(x, 1, "gust;", 1, 4);
        CHECK.fault(x, 1, "1;", 1, 0);
        CHECK.fault(x, 1, "gust lasts;", 1, 5);
        CHECK.fault(x, 1, "gust 1 when ((wet+1)>2);", 1, 19);
        CHECK.text(x, 1, "gust 1 when " + times(8, "(") + "1<2" + times(8, ")") + ";", 1);
        CHECK.fault(x, 1, "gust 1 when " + times(9, "(") + "1<2" + times(9, ")") + ";", 3, 20);
        CHECK.text(x, 1, "gust 1 when " + times(8, "not ") + "1<2;", 1);
        CHECK.fault(x, 1, "gust 1 when " + times(9, "not ") + "1<2;", 3, 44);
        CHECK.text(x, 1, "gust 1 when " + times(4, "not (") + "1<2" + times(4, ")") + ";", 1);
        CHECK.fault(x, 1, "gust 1 when " + times(4, "not (") + "not 1<2" + times(4, ")") + ";", 3, 32);
        CHECK.text(x, 1, "gust 1 when " + times(12, "not 1<2 and (1=1) or ") + "2>1;", 1);
        CHECK.text(x, 1, "gust 1 when " + times(7, "(") + "not 1<2 and not 1=1" + times(7, ")") + ";", 1);
    }

    private static void faultsOfWants() {
        StormSeeds x = new StormSeeds();
        String want = "want calm at 0 on 0 worth 1;";
        CHECK.text(x, 2, times(10, want), 10);
        CHECK.fault(x, 2, times(11, want), 3, 280);
        CHECK.fault(x, 2, "want 0 at 0 on 0 worth 1;", 2, 5);
        CHECK.text(x, 0, KIND, 1);
        CHECK.text(x, 2, "want 0 at 0 on 0 worth 1;", 1);
        CHECK.fault(x, 2, "want 1 at 0 on 0 worth 1;", 2, 5);
        CHECK.fault(x, 2, "want 0 at 5 on 0 worth 1;", 2, 10);
        CHECK.fault(x, 2, "want 0 at 32 on 0 worth 1;", 2, 10);
        CHECK.fault(x, 2, "want 0 at 9999 on 0 worth 1;", 2, 10);
        CHECK.text(x, 2, "want 0 at 28 on 999 worth 99;", 1);
        CHECK.fault(x, 2, "want 0 at 28 on 1000 worth 99;", 2, 16);
        CHECK.fault(x, 2, "want 0 at 28 on 999 worth 100;", 2, 26);
        CHECK.fault(x, 2, "want 0 at 28 on 999 worth 0;", 2, 26);
        CHECK.fault(x, 2, "want 0 at 28 worth 3;", 1, 13);
        CHECK.fault(x, 2, "want storm at 0 on 0 worth 1;", 1, 5);
        CHECK.fault(x, 2, "on 5 west;", 1, 0);
        CHECK.fault(x, 2, "calm at 0 on 0 worth 1;", 1, 0);
        CHECK.fault(x, 2, "0 at 0 on 0 worth 1;", 1, 0);
        CHECK.fault(x, 2, "want 0 0 on 0 worth 1;", 1, 7);
        CHECK.fault(x, 2, "want 0 at 0 0 worth 1;", 1, 12);
        CHECK.fault(x, 2, "want 0 at 0 on 0 1;", 1, 17);
        CHECK.fault(x, 2, "want 0 at 0 on 0 worth 1 want", 1, 25);
        CHECK.due("promise 7: WANTS stay as they were", x.look(13), 1);
    }

    private static void faultsOfAPlan() {
        StormSeeds x = new StormSeeds();
        CHECK.text(x, 3, times(16, "on 1 east;"), 16);
        CHECK.fault(x, 3, times(17, "on 1 east;"), 3, 160);
        CHECK.fault(x, 3, "on 1 sow 0 at 0;", 2, 9);
        CHECK.text(x, 0, KIND, 1);
        CHECK.text(x, 3, "on 1 sow 0 at 0;", 1);
        CHECK.fault(x, 3, "on 1 sow 1 at 0;", 2, 9);
        CHECK.fault(x, 3, "on 1 sow 0 at 7;", 2, 14);
        CHECK.fault(x, 3, "on 1 weed 29;", 2, 10);
        CHECK.fault(x, 3, "on 1000 weed 28;", 2, 3);
        CHECK.fault(x, 3, "on 1 weed;", 1, 9);
        CHECK.fault(x, 3, "on 1 turn;", 1, 5);
        CHECK.fault(x, 3, "on 1 north east;", 1, 11);
        CHECK.fault(x, 3, "on 1 sow 0;", 1, 10);
        CHECK.fault(x, 3, "sow 0 at 0;", 1, 0);
        CHECK.fault(x, 3, "5 west;", 1, 0);
        CHECK.fault(x, 3, "on west;", 1, 3);
        CHECK.fault(x, 3, "on 1 sow 0 0;", 1, 11);
        CHECK.fault(x, 3, "on 1 ;", 1, 5);
    }

    private static void faultsOfTokens() {
        StormSeeds x = new StormSeeds();
        CHECK.text(x, 0, "kind1lasts1spread0;kind\n2\nlasts 0009 spread\n\n0006 ;", 2);
        CHECK.due("a NUMBER with noughts ahead", x.kind(1, 1), 9);
        CHECK.fault(x, 0, "kind 00001 lasts 1 spread 0;", 1, 5);
        CHECK.fault(x, 0, "kinds 1 lasts 1 spread 0;", 1, 0);
        CHECK.fault(x, 0, "Kind 1 lasts 1 spread 0;", 1, 0);
        CHECK.fault(x, 0, "kindX 1 lasts 1 spread 0;", 1, 0);
        CHECK.fault(x, 0, "ki nd 1 lasts 1 spread 0;", 1, 0);
        CHECK.fault(x, 0, "kind\t1 lasts 1 spread 0;", 1, 4);
        CHECK.fault(x, 0, "kind\r1 lasts 1 spread 0;", 1, 4);
        CHECK.fault(x, 0, "kind 1, lasts 1 spread 0;", 1, 6);
        CHECK.fault(x, 0, "kind 1 lasts 1 spread 0; \u00e9", 1, 25);
        CHECK.fault(x, 0, "kind 1 lasts 1 spread 0;\u0000", 1, 24);
        CHECK.text(x, 1, "gust wet+soil-day*3/2 when not(edge=1or kind=2)and beside<2;", 1);
        CHECK.fault(x, 1, "gust wet when not(edge=1orkind=2);", 1, 24);
        CHECK.fault(x, 0, "kindz 1 lasts 1 spread 0;", 1, 0);
        CHECK.fault(x, 0, "kindA 1 lasts 1 spread 0;", 1, 0);
        CHECK.fault(x, 0, "kindZ 1 lasts 1 spread 0;", 1, 0);
        CHECK.fault(x, 0, "kind@1 lasts 1 spread 0;", 1, 4);
        CHECK.fault(x, 0, "kind[1 lasts 1 spread 0;", 1, 4);
        CHECK.fault(x, 0, "kind`1 lasts 1 spread 0;", 1, 4);
        CHECK.fault(x, 0, "kind{1 lasts 1 spread 0;", 1, 4);
        CHECK.fault(x, 0, "kind/1 lasts 1 spread 0;", 1, 4);
        CHECK.fault(x, 0, "kind:1 lasts 1 spread 0;", 1, 4);
        CHECK.fault(x, 1, times(400, ";"), 1, 0);
        CHECK.fault(x, 1, "gust 1" + times(197, "+1"), 1, 400);
        CHECK.text(x, 1, "gust 1" + times(196, "+1") + ";", 1);
        String full = "gust 1;" + " ".repeat(393);
        CHECK.text(x, 1, full, 1);
        CHECK.fault(x, 1, "gust 1" + " ".repeat(394), 1, 400);
    }

    private static void faultIsSeen() {
        StormSeeds x = new StormSeeds();
        CHECK.fault(x, 1, "gust 1/0; harm", 2, 7);
        CHECK.due("promise 8: another what", x.fault(2), StormSeeds.NONE);
        CHECK.due("promise 8: what -1", x.fault(-1), StormSeeds.NONE);
        CHECK.text(x, 1, "gust 1;", 1);
        CHECK.due("promise 8: without a fault", x.fault(0), 0);
        CHECK.due("promise 8: without a place", x.fault(1), StormSeeds.NONE);
    }
}
