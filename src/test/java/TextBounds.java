/** Terms, part 2, and the promises 5 to 8: the TAPE, the four TEXTS, their TOKENS and FAULTS. */
final class TextBounds {
    private static final int LEAST = Integer.MIN_VALUE;
    private static final int MOST = Integer.MAX_VALUE;
    private static final int NONE = StormSeeds.NONE;
    private static final String KIND = "kind 1 lasts 1 spread 0;";
    private static final String CROSS = "cross 0 with 0 to 0;";
    private static final String WANT = "want calm at 0 on 0 worth 1;";
    private static final String DEED = "on 1 east;";
    // One text of each sort, a blank between all tokens; each has all that can stand in it.
    private static final String[][] WHOLE = {
        {"kind 1 lasts 1 spread 0 ; cross 0 with 0 to 0 ;"},
        {"gust 1 + kind - wet * soil / 2 when ( beside < day and not edge = hedges or storm > 1 ) ; harm 2 ;"},
        {"want 0 at 0 on 0 worth 1 ;", "want calm at 0 on 0 worth 1 ;"},
        {"on 1 sow 0 at 0 ;", "on 1 weed 0 ;", "on 1 north ;", "on 1 east ;", "on 1 south ;", "on 1 west ;"}};

    private final Bounds b;

    TextBounds(Bounds b) {
        this.b = b;
    }

    void ask() {
        tapeIsFed();
        bytesOfTheTape();
        tapeIsEnded();
        textsThereAre();
        kindsToldAnew();
        faultIsSeen();
        endOfTheText();
        whatCannotStand();
        letters();
        digits();
        blanks();
        signs();
        partByNothing();
        beyondItsBounds();
        cellsThereAre();
        kindsThereAre();
        tooManyLines();
        tooManyOpen();
        firstByItsPlace();
    }

    private static void fill(StormSeeds x, int feeds) {
        for (int i = 0; i < feeds; i++) {
            x.feed(0x20202020, 0x20202020, 0x20202020, 0x20202020, 0x20202020);
        }
    }

    private void tapeIsFed() {
        b.promise(5, "NONE, and nothing comes, if there would be more than 400.");
        StormSeeds x = new StormSeeds();
        for (int i = 1; i <= 20; i++) {
            b.inside("feed " + i, x.feed(i, -i, 0, LEAST, MOST), 20 * i);
        }
        b.beyond("the 21st", x.feed(1, 2, 3, 4, 5), NONE);
        b.beyond("nothing came", x.end(401));
        b.inside("400 are there", x.end(400));
        for (int n = 399; n > 380; n--) {
            b.inside("end(" + n + ")", x.end(n));
            b.beyond("feed with " + n, x.feed(0, 0, 0, 0, 0), NONE);
            b.beyond("nothing came", x.end(n + 1));
        }
        b.inside("end(380)", x.end(380));
        b.inside("feed with 380", x.feed(0, 0, 0, 0, 0), 400);
        b.inside("end(379)", x.end(379));
        b.inside("feed with 379", x.feed(0, 0, 0, 0, 0), 399);
        b.beyond("feed with 399", x.feed(0, 0, 0, 0, 0), NONE);
        x.end(0);
        b.inside("feed with 0", x.feed(0, 0, 0, 0, 0), 20);

        StormSeeds y = new StormSeeds();
        Check.put(y, "gust 1" + " ".repeat(393) + ";");
        b.beyond("feed of other bytes", y.feed(-1, -1, -1, -1, -1), NONE);
        b.inside("the 400 bytes are as they were", y.text(1), 1);
    }

    private void bytesOfTheTape() {
        b.promise(5, "Twenty bytes come behind the TAPE, of each number the highest first: how many it has.");
        // Five numbers, each with "gust", " 9 ;" and so on: wrong in any other order of bytes or numbers.
        StormSeeds x = new StormSeeds();
        b.inside("feed", x.feed(0x67757374, 0x20393b68, 0x61726d20, 0x35206b69, 0x6e643b20), 20);
        b.beyond("a line with a word too many", x.text(1), NONE);
        b.beyond("its place", x.fault(1), 14);
        b.inside("feed", x.feed(0x67757374, 0x20393b68, 0x61726d20, 0x35202f20, 0x323b2020), 20);
        b.inside("two lines", x.text(1), 2);
        // A byte with its highest bit, in each of the twenty places, is no token.
        for (int at = 0; at < 20; at++) {
            StormSeeds y = new StormSeeds();
            int[] n = {0x20202020, 0x20202020, 0x20202020, 0x20202020, 0x20202020};
            n[at / 4] ^= 0xA0 << 8 * (3 - at % 4);
            b.inside("feed", y.feed(n[0], n[1], n[2], n[3], n[4]), 20);
            b.beyond("text(1) with byte 128 at " + at, y.text(1), NONE);
            b.beyond("its place", y.fault(1), at);
        }
    }

    private void tapeIsEnded() {
        b.promise(6, "true; false, changing nothing, if it has not so many, or n is below 0.");
        StormSeeds x = new StormSeeds();
        b.inside("end(0) of the empty TAPE", x.end(0));
        b.beyond("end(1) of it", x.end(1));
        b.beyond("end(-1) of it", x.end(-1));
        Check.put(x, "gust 1;harm 1;");
        for (int n : new int[] {15, 20, 400, 401, MOST, -1, -14, LEAST}) {
            b.beyond("end(" + n + ") of 14", x.end(n));
        }
        b.inside("end(14) of 14", x.end(14));
        b.inside("the TAPE is as it was", x.text(1), 2);
        Check.put(x, "gust 1;harm 1;");
        b.inside("end(13)", x.end(13));
        b.beyond("end(14) then", x.end(14));
        b.beyond("the text without its last sign", x.text(1), NONE);
        b.beyond("its place", x.fault(1), 13);
        Check.put(x, "gust 1;harm 1;");
        b.inside("end(7)", x.end(7));
        b.inside("the first line alone", x.text(1), 1);
        // What was behind the end is no part of a token that ends there.
        Check.put(x, "kinds");
        b.inside("end(4)", x.end(4));
        b.beyond("a line of one word", x.text(0), NONE);
        b.beyond("its place", x.fault(1), 4);
        Check.put(x, "gust 12345");
        b.inside("end(9)", x.end(9));
        b.beyond("a line without its end", x.text(1), NONE);
        b.beyond("its place", x.fault(1), 9);
        Check.put(x, "gust 1;");
        b.inside("end(1)", x.end(1));
        b.inside("end(0)", x.end(0));
        b.inside("no line", x.text(1), 0);
        fill(x, 20);
        b.inside("end(400) of 400", x.end(400));
        b.beyond("end(401) of 400", x.end(401));
    }

    private void textsThereAre() {
        b.promise(7, "NONE: no such one (fault() tells 0), or a FAULT (the TEXT stays as it was; the TAPE is empty in each case).");
        StormSeeds x = new StormSeeds();
        for (int k = 0; k <= 3; k++) {
            b.inside("text(" + k + ") of the empty TAPE", x.text(k), 0);
        }
        for (int k : new int[] {-1, 4, 5, LEAST, MOST}) {
            b.refused(x, 1, "!", 1, 0);
            Check.put(x, "gust 1;");
            b.beyond("text(" + k + ")", x.text(k), NONE);
            b.beyond("fault(0)", x.fault(0), 0);
            b.beyond("fault(1)", x.fault(1), NONE);
            b.beyond("the TAPE is empty", x.end(1));
        }
        String[] lines = {KIND + CROSS + KIND, "gust 1;harm 2;gust 3;", WANT + WANT, DEED};
        int[] due = {3, 3, 2, 1};
        int[] looks = {6, 12, 13, 14};
        int[] seen = {2, 3, 2, 1};
        for (int k = 0; k <= 3; k++) {
            b.told(x, k, lines[k], due[k]);
            b.inside("look(" + looks[k] + ")", x.look(looks[k]), seen[k]);
            b.beyond("the TAPE is empty", x.end(1));
        }
        for (int k = 0; k <= 3; k++) {
            b.refused(x, k, lines[k] + "!", 1, lines[k].length());
            b.beyond("the TAPE is empty", x.end(1));
            for (int i = 0; i <= 3; i++) {
                b.beyond("look(" + looks[i] + ") stays", x.look(looks[i]), seen[i]);
            }
        }
        for (int k = 3; k >= 0; k--) {
            b.told(x, k, "", 0);
            b.inside("look(" + looks[k] + ") of nothing", x.look(looks[k]), 0);
        }

        b.promise(7, "The TAPE, empty then, is TEXT k: how many lines (KINDS: KINDS and CROSSINGS).");
        StormSeeds y = new StormSeeds();
        String full = KIND.repeat(8) + CROSS.repeat(10);
        b.told(y, 0, full, 18);
        b.told(y, 0, full + " ".repeat(400 - full.length()), 18);
        b.refused(y, 0, " ".repeat(399) + "!", 1, 399);
        b.told(y, 1, "gust 1" + " ".repeat(393) + ";", 1);
        b.refused(y, 1, "gust 1;" + " ".repeat(392) + ";", 1, 399);
        b.told(y, 1, " ".repeat(400), 0);
        b.refused(y, 1, ";".repeat(400), 1, 0);
        b.refused(y, 1, " ".repeat(396) + "gust", 1, 400);
        b.refused(y, 1, " ".repeat(394) + "gust 1", 1, 400);
        b.told(new StormSeeds(), 1, "gust1" + "+1".repeat(197) + ";", 1);
        b.refused(new StormSeeds(), 1, "gust1" + "+1".repeat(197) + "+", 1, 400);
    }

    private void kindsToldAnew() {
        b.terms(2, "Told anew all SEEDS and STORMS are gone; WANTS, A PLAN are empty.");
        for (boolean isTold : new boolean[] {true, false}) {
            StormSeeds x = new StormSeeds();
            b.given(x, 0, KIND + "kind 9 lasts 9 spread 0;" + CROSS, 3);
            b.given(x, 1, "gust 3;", 1);
            b.given(x, 2, "want 0 at 0 on 9 worth 5;", 1);
            b.given(x, 3, "on 9 sow 0 at 0;", 1);
            x.sow(1, 28);
            x.sow(0, 0);
            x.days(1);
            x.set(2, 1, 1);
            x.sow(0, 9);
            b.given(x, 1, "gust 3;gust 4;", 2);
            b.given("look(8)", x.look(8), 3);
            x.turn(0);
            // The same KINDS again, or the same with a fault at their end.
            Check.put(x, KIND + "kind 9 lasts 9 spread 0;" + CROSS + (isTold ? "" : "x"));
            b.side(isTold, "text(0)", x.text(0), isTold ? 3 : NONE);
            b.side(isTold, "SEEDS", x.look(8), isTold ? 0 : 3);
            b.side(isTold, "the SEED of 28", x.at(28, 2), isTold ? NONE : 1);
            b.side(isTold, "WANTS", x.look(13), isTold ? 0 : 1);
            b.side(isTold, "A PLAN", x.look(14), isTold ? 0 : 1);
            b.side(isTold, "what can be undone", x.look(15), isTold ? 0 : 2);
            b.inside("THE LAW stays", x.look(12), 2);
            b.inside("the HEDGE stays", x.at(1, 1), 1);
            b.inside("DAY stays", x.look(2), 1);
            b.inside("the WIND stays", x.look(3), 0);
            b.inside("THE BOOK stays", x.look(10), 3);
        }
        StormSeeds y = new StormSeeds();
        b.given(y, 0, "kind 1 lasts 9 spread 0;", 1);
        y.sow(0, 28);
        y.days(2);
        b.refused(y, 0, KIND + "kind", 1, 28);
        b.beyond("the STORM stays at a FAULT", y.at(28, 4), 0);
        b.told(y, 0, "", 0);
        b.inside("it is gone with no KINDS", y.at(28, 4), NONE);
        b.inside("STORMS", y.look(9), 0);
        b.inside("KINDS", y.look(6), 0);
    }

    private void faultIsSeen() {
        b.promise(8, "Of the latest text() what 0 the FAULT (0 without one), 1 its place (NONE). NONE for another what.");
        StormSeeds x = new StormSeeds();
        b.inside("fault(0) ahead of any text", x.fault(0), 0);
        b.inside("fault(1) ahead of any text", x.fault(1), NONE);
        b.refused(x, 1, "gust 1/0;", 2, 7);
        x.turn(0);
        x.feed(0, 0, 0, 0, 0);
        x.end(0);
        b.inside("fault(0) stays", x.fault(0), 2);
        b.inside("fault(1) stays", x.fault(1), 7);
        for (int what : new int[] {-1, 2, 3, LEAST, MOST}) {
            b.beyond("fault(" + what + ")", x.fault(what), NONE);
        }
        b.refused(x, 1, "x", 1, 0);
        b.told(x, 1, "gust 1;", 1);
        for (int what : new int[] {-1, 2, 3, LEAST, MOST}) {
            b.beyond("fault(" + what + ") without one", x.fault(what), NONE);
        }
    }

    private void endOfTheText() {
        b.terms(2, "FAULTS, the first by its place, at one place the least: 1 what can't stand there (the end: the text's length).");
        for (int k = 0; k < WHOLE.length; k++) {
            for (String whole : WHOLE[k]) {
                askEachEnd(k, whole);
            }
        }
    }

    /** A text without its last tokens is a text only if it ends behind a ";" of a line. */
    private void askEachEnd(int k, String whole) {
        String[] tokens = whole.split(" ");
        StringBuilder text = new StringBuilder();
        int lines = 0;
        for (int n = 0; n <= tokens.length; n++) {
            StormSeeds x = ready();
            boolean isWhole = n == 0 || tokens[n - 1].equals(";");
            String some = text.toString();
            if (isWhole) {
                b.told(x, k, some, lines);
            } else {
                b.refused(x, k, some, 1, some.length());
                b.refused(x, k, some + " \n ", 1, some.length() + 3);
            }
            if (n < tokens.length) {
                text.append(n == 0 ? "" : " ").append(tokens[n]);
                lines += tokens[n].equals(";") ? 1 : 0;
            }
        }
    }

    private void whatCannotStand() {
        b.terms(2, "1 what can't stand there");
        for (int k = 0; k < WHOLE.length; k++) {
            for (String whole : WHOLE[k]) {
                String[] tokens = whole.split(" ");
                b.told(ready(), k, whole, k == 0 || k == 1 ? 2 : 1);
                for (int n = 0; n < tokens.length; n++) {
                    refuseAt(ready(), k, tokens, n);
                }
            }
        }
    }

    /** In the place of each token, words, signs and bytes that can stand nowhere there. */
    private void refuseAt(StormSeeds x, int k, String[] tokens, int n) {
        int place = 0;
        StringBuilder ahead = new StringBuilder();
        for (int i = 0; i < n; i++) {
            ahead.append(tokens[i]).append(" ");
            place += tokens[i].length() + 1;
        }
        StringBuilder behind = new StringBuilder();
        for (int i = n + 1; i < tokens.length; i++) {
            behind.append(" ").append(tokens[i]);
        }
        for (String other : new String[] {"x", "!", "\u00e9", "\u0000", ""}) {
            // Nothing in its place: the next token can't stand there.
            int at = other.isEmpty() && n + 1 < tokens.length ? place + 1 : place;
            boolean isLeftOut = other.isEmpty() && (tokens[n].equals("not") || tokens[n].equals("("));
            if (!isLeftOut) {
                b.refused(x, k, ahead + other + behind, 1, at);
            }
        }
        if (Character.isDigit(tokens[n].charAt(0))) {
            b.refused(x, k, ahead + "0000" + tokens[n] + behind, 1, place);
            // A word close behind a NUMBER is the next token, and none that can stand there.
            b.refused(x, k, ahead + tokens[n] + "x" + behind, 1, place + tokens[n].length());
        } else if (Character.isLetter(tokens[n].charAt(0))) {
            b.refused(x, k, ahead + tokens[n] + "x" + behind, 1, place);
            b.refused(x, k, ahead + "x" + tokens[n] + behind, 1, place);
            for (int i = 0; i < tokens[n].length(); i++) {
                String other = tokens[n].substring(0, i) + "z" + tokens[n].substring(i + 1);
                b.refused(x, k, ahead + other + behind, 1, place);
            }
            // A word of another text is none of this one.
            b.refused(x, k, ahead + (k == 1 ? "calm" : "hedges") + behind, 1, place);
        }
    }

    private void letters() {
        b.terms(2, "letters as many as stand together are KEYWORDS (those told here for that text) or none;");
        StormSeeds x = new StormSeeds();
        b.told(x, 0, "kind1lasts1spread0;cross0with0to0;", 2);
        b.told(x, 1, "gust1when1<2and1<2;", 1);
        b.refused(x, 1, "gust1when1<2andnot1<2;", 1, 12);
        b.told(x, 1, "gust1when1<2and not1<2;", 1);
        for (char c : "azAZ".toCharArray()) {
            b.refused(x, 0, "kind" + c + "1lasts 1 spread 0;", 1, 0);
            b.refused(x, 0, c + "kind 1 lasts 1 spread 0;", 1, 0);
        }
        for (char c : "@[`{".toCharArray()) {
            b.refused(x, 0, "kind" + c + "1lasts 1 spread 0;", 1, 4);
        }
        b.refused(x, 0, "kin 1 lasts 1 spread 0;", 1, 0);
        b.refused(x, 0, "kinds 1 lasts 1 spread 0;", 1, 0);
        b.refused(x, 0, "KIND 1 lasts 1 spread 0;", 1, 0);
        b.refused(x, 0, "kind 1 lasts 1 spread 0;crosswith 0 with 0 to 0;", 1, 24);
        b.refused(x, 1, "gust wets;", 1, 5);
        b.refused(x, 1, "gust we;", 1, 5);
        b.refused(x, 1, "gust hedge;", 1, 5);
        b.told(x, 1, "gust hedges;", 1);
        b.refused(x, 1, "gust calm;", 1, 5);
        b.refused(x, 2, "gust 1;", 1, 0);
        b.refused(x, 3, "on 1 harm;", 1, 5);
    }

    private void digits() {
        b.terms(2, "digits as many as stand together NUMBERS of 1 to 4 digits or none;");
        StormSeeds x = new StormSeeds();
        for (String n : new String[] {"0", "9", "00", "99", "000", "999", "0000", "0001", "9999"}) {
            b.told(x, 1, "gust " + n + ";", 1);
        }
        for (String n : new String[] {"00000", "00001", "10000", "99999", "000000", "4294967297", "99999999999999999999"}) {
            b.refused(x, 1, "gust " + n + ";", 1, 5);
            b.refused(x, 0, "kind " + n + " lasts 1 spread 0;", 1, 5);
            b.refused(x, 1, "gust 1/" + n + ";", 1, 7);
            b.refused(x, 3, "on " + n + " east;", 1, 3);
            b.refused(x, 3, "on 1 weed " + n + ";", 1, 10);
            b.refused(x, 2, "want " + n + " at 0 on 0 worth 1;", 1, 5);
        }
        b.told(x, 0, "kind 0020 lasts 0009 spread 0006;", 1);
        b.inside("SOIL", x.kind(0, 0), 20);
        b.inside("LASTS", x.kind(0, 1), 9);
        b.inside("SPREAD", x.kind(0, 2), 6);
        b.refused(x, 1, "gust 1 2;", 1, 7);
        b.told(x, 3, "on 0999 weed 0028;", 1);
        b.told(x, 2, "want 0000 at 0028 on 0999 worth 0099;", 1);
    }

    private void blanks() {
        b.terms(2, "Blanks (32, 10) between.");
        for (int sign = 0; sign < 256; sign++) {
            StormSeeds x = new StormSeeds();
            char c = (char) sign;
            String text = "gust" + c + "1;";
            if (c == ' ' || c == '\n' || c >= '0' && c <= '9') {
                b.told(x, 1, text, 1);
            } else if (c >= 'a' && c <= 'z' || c >= 'A' && c <= 'Z') {
                b.refused(x, 1, text, 1, 0);
            } else {
                b.refused(x, 1, text, 1, 4);
            }
            if (c == ' ' || c == '\n') {
                b.told(x, 1, c + "gust 1" + c + c + ";" + c, 1);
            } else {
                b.refused(x, 1, c + ";gust 1;", 1, 0);
                b.refused(x, 1, "gust 1;" + c, 1, 7);
            }
        }
        StormSeeds x = new StormSeeds();
        b.told(x, 1, "gust1+2*3-4/5when(1<2)or not 2>1;", 1);
        b.refused(x, 1, "gu st 1;", 1, 0);
        b.refused(x, 1, "gust 1 0;", 1, 7);
    }

    private void signs() {
        b.terms(2, "; + - * / ( ) < = > .");
        for (int sign = 0; sign < 256; sign++) {
            StormSeeds x = new StormSeeds();
            char c = (char) sign;
            String text = "gust 1 when 1" + c + "1;";
            if (c == '<' || c == '=' || c == '>') {
                b.told(x, 1, text, 1);
            } else if ("+-*/".indexOf(c) >= 0 || c >= '0' && c <= '9') {
                // An E that is not compared.
                b.refused(x, 1, text, 1, 15);
            } else {
                b.refused(x, 1, text, 1, c == ' ' || c == '\n' ? 14 : 13);
            }
            text = "gust 1" + c + "1;";
            if ("+-*/".indexOf(c) >= 0 || c >= '0' && c <= '9') {
                b.told(x, 1, text, 1);
            } else {
                b.refused(x, 1, text, 1, c == ' ' || c == '\n' || c == ';' ? 7 : 6);
            }
        }
        StormSeeds x = new StormSeeds();
        b.told(x, 1, "gust 1 when (1<1);", 1);
        b.refused(x, 1, "gust 1 when [1<1];", 1, 12);
        b.refused(x, 1, "gust 1 when 1<=1;", 1, 14);
        b.refused(x, 1, "gust 1 when (1<1;", 1, 16);
        b.refused(x, 1, "gust 1 when 1<1);", 1, 15);
        b.refused(x, 1, "gust 1 when ();", 1, 13);
        b.refused(x, 1, "gust 1:", 1, 6);
    }

    private void partByNothing() {
        b.terms(2, "2 (at the NUMBER) a part by 0;");
        StormSeeds x = new StormSeeds();
        for (String n : new String[] {"0", "00", "000", "0000"}) {
            b.refused(x, 1, "gust 1/" + n + ";", 2, 7);
            b.refused(x, 1, "gust 1 / " + n + ";", 2, 9);
            b.refused(x, 1, "gust 1 when 1=1*5/" + n + ";", 2, 18);
        }
        b.refused(x, 1, "harm 1;gust 1/1/0;", 2, 16);
        for (String n : new String[] {"1", "01", "0001", "9999"}) {
            b.told(x, 1, "gust 1/" + n + ";", 1);
        }
        b.told(x, 1, "gust 0/1*0;", 1);
        b.refused(x, 1, "gust 1/kind;", 1, 7);
    }

    /** A text with a NUMBER put for the sign #: refused below a least and above a most. */
    private void bounds(int k, String text, int least, int most) {
        int place = text.indexOf('#');
        for (int n : new int[] {least, least + 1, most - 1, most}) {
            b.told(ready(), k, text.replace("#", "" + n), 1);
        }
        for (int n : new int[] {least - 1, most + 1, 2 * most + 100, 9999}) {
            if (n >= 0 && n <= 9999) {
                b.refused(ready(), k, text.replace("#", "" + n), 2, place);
            }
        }
    }

    private static StormSeeds ready() {
        StormSeeds x = new StormSeeds();
        Check.put(x, KIND.repeat(8));
        x.text(0);
        return x;
    }

    private void beyondItsBounds() {
        b.terms(2, "one beyond its bounds (DAY 0 .. 999);");
        bounds(0, "kind # lasts 1 spread 0;", 1, 20);
        bounds(0, "kind 1 lasts # spread 0;", 1, 9);
        bounds(0, "kind 1 lasts 1 spread #;", 0, 6);
        bounds(2, "want 0 at 0 on # worth 1;", 0, 999);
        bounds(2, "want calm at 0 on # worth 1;", 0, 999);
        bounds(3, "on # sow 0 at 0;", 0, 999);
        bounds(3, "on # weed 0;", 0, 999);
        bounds(3, "on # north;", 0, 999);

        b.terms(2, "(worth 1 .. 99.)");
        bounds(2, "want 0 at 0 on 0 worth #;", 1, 99);
        bounds(2, "want calm at 0 on 0 worth #;", 1, 99);
        StormSeeds x = new StormSeeds();
        b.told(x, 2, "want calm at 0 on 0 worth 99;want calm at 1 on 0 worth 1;", 2);
        b.inside("worth 99 and 1", x.meets(0), 100);
    }

    private void cellsThereAre() {
        b.terms(2, "a KIND, a CELL that there is not.");
        for (int w : new int[] {2, 5, 7}) {
            for (int h : new int[] {2, 4, 7}) {
                for (int cell = 0; cell <= 72; cell++) {
                    StormSeeds x = new StormSeeds();
                    x.land(w, h);
                    b.given(x, 0, KIND, 1);
                    boolean is = cell % 8 < w && cell / 8 < h;
                    cell(x, is, 2, "want 0 at " + cell + " on 0 worth 1;", 10);
                    cell(x, is, 2, "want calm at " + cell + " on 0 worth 1;", 13);
                    cell(x, is, 3, "on 1 sow 0 at " + cell + ";", 14);
                    cell(x, is, 3, "on 1 weed " + cell + ";", 10);
                }
            }
        }
        for (int cell : new int[] {127, 128, 256, 999, 1000, 9999}) {
            cell(ready(), false, 2, "want 0 at " + cell + " on 0 worth 1;", 10);
            cell(ready(), false, 3, "on 1 weed " + cell + ";", 10);
        }
    }

    private void cell(StormSeeds x, boolean is, int k, String text, int place) {
        if (is) {
            b.told(x, k, text, 1);
        } else {
            b.refused(x, k, text, 2, place);
        }
    }

    private void kindsThereAre() {
        b.terms(2, "a KIND, a CELL that there is not.");
        for (int kinds = 0; kinds <= 8; kinds++) {
            StormSeeds x = new StormSeeds();
            b.given(x, 0, KIND.repeat(kinds), kinds);
            for (int kind : new int[] {0, kinds - 1, kinds, kinds + 1, 8, 9, 9999}) {
                if (kind >= 0) {
                    cell(x, kind < kinds, 2, "want " + kind + " at 0 on 0 worth 1;", 5);
                    cell(x, kind < kinds, 3, "on 1 sow " + kind + " at 0;", 9);
                }
            }
            b.told(x, 2, "want calm at 0 on 0 worth 1;", 1);
        }

        b.terms(2, "(KINDS told ahead in it.)");
        for (int kinds = 0; kinds <= 8; kinds++) {
            String ahead = KIND.repeat(kinds);
            for (int kind : new int[] {0, kinds - 1, kinds, 9999}) {
                if (kind < 0) {
                    continue;
                }
                String[] texts = {"cross " + kind + " with 0 to 0;", "cross 0 with " + kind + " to 0;", "cross 0 with 0 to " + kind + ";"};
                int[] places = {6, 13, 18};
                for (int i = 0; i < 3; i++) {
                    // KINDS that were told in an earlier text, or come behind it, are none yet.
                    StormSeeds x = ready();
                    if (kind < kinds) {
                        b.told(x, 0, ahead + texts[i], kinds + 1);
                    } else {
                        b.refused(x, 0, ahead + texts[i] + KIND, 2, ahead.length() + (kinds == 0 ? 6 : places[i]));
                    }
                }
            }
        }
        b.told(new StormSeeds(), 0, KIND + CROSS + KIND + "cross 1 with 0 to 1;", 4);
        b.refused(new StormSeeds(), 0, KIND + "cross 1 with 0 to 1;" + KIND, 2, 30);
    }

    private void tooManyLines() {
        b.terms(2, "3 (at its KEYWORD) the 9th KIND, the 11th CROSSING, the 17th line of THE LAW, of A PLAN, the 11th WANT;");
        tooMany(0, "", KIND, 8);
        tooMany(0, KIND, CROSS, 10);
        tooMany(1, "", "gust 1;", 16);
        tooMany(1, "", "harm 1;", 16);
        tooMany(2, "", WANT, 10);
        tooMany(3, "", DEED, 16);
        b.told(new StormSeeds(), 0, KIND.repeat(8) + CROSS.repeat(10), 18);
        b.told(new StormSeeds(), 0, (KIND + CROSS).repeat(8) + CROSS.repeat(2), 18);
        b.refused(new StormSeeds(), 0, KIND.repeat(8) + CROSS + "kind", 3, 212);
        b.refused(new StormSeeds(), 0, KIND + CROSS.repeat(10) + KIND + "cross", 3, 248);
        b.told(new StormSeeds(), 1, "gust 1;harm 1;".repeat(8), 16);
        b.refused(new StormSeeds(), 1, "gust 1;harm 1;".repeat(8) + "gust 1;", 3, 112);
        b.refused(new StormSeeds(), 1, "gust 1;harm 1;".repeat(8) + "harm 1;", 3, 112);
        b.told(ready(), 3, "on 1 sow 0 at 0;on 1 weed 0;on 1 west;on 1 east;".repeat(4), 16);
        b.refused(ready(), 3, "on 1 sow 0 at 0;on 1 weed 0;on 1 west;on 1 east;".repeat(4) + "on 9 west;", 3, 192);
        b.told(ready(), 2, "want 0 at 0 on 0 worth 1;want calm at 0 on 0 worth 1;".repeat(5), 10);
    }

    private void tooMany(int k, String ahead, String line, int most) {
        int lines = ahead.isEmpty() ? most : most + 1;
        b.told(new StormSeeds(), k, ahead + line.repeat(most - 1), lines - 1);
        b.told(new StormSeeds(), k, ahead + line.repeat(most), lines);
        String full = ahead + line.repeat(most);
        b.refused(new StormSeeds(), k, full + line, 3, full.length());
        b.refused(new StormSeeds(), k, full + "\n  " + line, 3, full.length() + 3);
        String keyword = line.substring(0, line.indexOf(' '));
        b.refused(new StormSeeds(), k, full + keyword, 3, full.length());
        b.refused(new StormSeeds(), k, full + keyword + " !", 3, full.length());
        b.refused(new StormSeeds(), k, full + "!" + line, 1, full.length());
        // The text that stood stays as it was.
        StormSeeds x = new StormSeeds();
        b.told(x, k, full, lines);
        b.refused(x, k, full + line, 3, full.length());
        b.inside("the text stays", x.look(k == 0 ? 6 : 11 + k), k == 0 ? lines - (ahead.isEmpty() ? 0 : most) : lines);
    }

    private void tooManyOpen() {
        b.terms(2, "(at it) the 9th ( or not that is open.");
        String head = "gust 1 when ";
        for (int nots = 0; nots <= 9; nots++) {
            for (int brackets = 0; brackets <= 9; brackets++) {
                for (boolean isNotFirst : new boolean[] {true, false}) {
                    askOpen(head, nots, brackets, isNotFirst);
                }
            }
        }
        StormSeeds x = new StormSeeds();
        String eight = "(".repeat(8) + "1<2" + ")".repeat(8);
        b.told(x, 1, head + eight + " and " + eight + " or " + eight + ";", 1);
        b.told(x, 1, head + eight + " and " + "not ".repeat(8) + "1<2 and not 1<2;", 1);
        b.told(x, 1, head + "(".repeat(7) + "not 1<2 and not 1<2 or not 1<2" + ")".repeat(7) + ";", 1);
        b.told(x, 1, head + "(".repeat(7) + "(1<2) and (1<2) or (1<2)" + ")".repeat(7) + ";", 1);
        b.refused(x, 1, head + "(".repeat(7) + "not 1<2 and not (1<2)" + ")".repeat(7) + ";", 3, 35);
        b.refused(x, 1, head + "(".repeat(8) + "1<2 and not 1<2" + ")".repeat(8) + ";", 3, 28);
        b.refused(x, 1, head + "(".repeat(8) + "1<2 or (1<2)" + ")".repeat(8) + ";", 3, 27);
        b.refused(x, 1, head + eight + " and (" + eight + ");", 3, 44);
        b.refused(x, 1, head + "(".repeat(9), 3, 20);
        b.refused(x, 1, head + "(".repeat(8), 1, 20);
        b.refused(x, 1, head + "not ".repeat(9), 3, 44);
        b.refused(x, 1, head + "(".repeat(388), 3, 20);
        b.told(x, 1, "gust 1 when " + eight + ";harm 1 when " + eight + ";", 2);
    }

    private void askOpen(String head, int nots, int brackets, boolean isNotFirst) {
        String not = "not ".repeat(nots);
        String open = "(".repeat(brackets);
        String text = head + (isNotFirst ? not + open : open + not) + "1<2" + ")".repeat(brackets) + ";";
        if (nots + brackets <= 8) {
            b.told(new StormSeeds(), 1, text, 1);
            return;
        }
        int place = head.length();
        for (int i = 0; i < 8; i++) {
            place += text.charAt(place) == '(' ? 1 : 4;
        }
        b.refused(new StormSeeds(), 1, text, 3, place);
    }

    private void firstByItsPlace() {
        b.terms(2, "the first by its place, at one place the least:");
        StormSeeds x = ready();
        b.told(x, 0, "kind 20 lasts 9 spread 6;", 1);
        b.refused(x, 0, "kind 21 lasts 10 spread 7;", 2, 5);
        b.refused(x, 0, "kind 20 lasts 10 spread 7;", 2, 14);
        b.refused(x, 0, "kind 20 lasts 9 spread 7", 2, 23);
        b.refused(x, 0, "kind x lasts 10 spread 7;", 1, 5);
        b.refused(x, 0, "kind 21 x", 2, 5);
        b.refused(x, 0, "kind 20 lasts 9 spread 6 kind 0", 1, 25);
        b.refused(x, 0, "cross 0 with 9 to 9;", 2, 6);
        b.refused(x, 0, KIND.repeat(7) + "kind 0 lasts 1 spread 0;" + KIND, 2, 173);
        b.refused(x, 0, KIND.repeat(8) + "kind 0", 3, 192);
        b.refused(x, 1, "gust 1/0/0;", 2, 7);
        b.refused(x, 1, "gust 1/0 when " + "(".repeat(9), 2, 7);
        b.refused(x, 1, "gust 1 when " + "(".repeat(9) + "1/0", 3, 20);
        b.refused(x, 2, "want 9 at 99 on 1000 worth 100;", 2, 5);
        b.refused(x, 2, "want calm at 99 on 1000 worth 100;", 2, 13);
        b.refused(x, 2, "want calm at 0 on 1000 worth 100;", 2, 18);
        b.refused(x, 3, "on 1000 up;", 2, 3);
        b.refused(x, 3, "on 1 sow 9 at 99;", 2, 9);
        b.refused(x, 3, "on 1 sow 0 at 99", 2, 14);
        // At one place: what can't stand there, though it is the 17th line's word or the 9th bracket.
        b.refused(x, 1, "gust 1;".repeat(15) + "gust 1 gust 1;", 1, 112);
        b.refused(x, 1, "gust 1;".repeat(16) + "kind", 1, 112);
        b.refused(x, 0, KIND.repeat(7) + "kind 1 lasts 1 spread 0 kind", 1, 192);
        b.refused(x, 1, "gust 1 when " + "(".repeat(8) + "1<(", 1, 22);
        b.refused(x, 1, "gust 1 when " + "(".repeat(8) + "1<2(", 1, 23);
        b.refused(x, 1, "gust 1 when " + "(".repeat(8) + "1<2 not 1<2", 1, 24);
        // A NUMBER of five digits is none, whatever it would tell.
        b.refused(x, 1, "gust 1/00000;", 1, 7);
        b.refused(x, 3, "on 01000 up;", 1, 3);
        b.refused(x, 3, "on 1 weed 00099;", 1, 10);
        b.refused(x, 0, KIND + "cross 00001 with 0 to 0;", 1, 30);
    }
}
