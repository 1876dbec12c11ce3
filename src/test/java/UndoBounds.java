/** The promises 31 and 32: what can be undone, THE IMAGE. */
final class UndoBounds {
    private static final int NONE = StormSeeds.NONE;
    private static final String KINDS = "kind 1 lasts 9 spread 0;kind 20 lasts 1 spread 0;";

    private final Bounds b;

    UndoBounds(Bounds b) {
        this.b = b;
    }

    void ask() {
        nothingToUndo();
        sixAreKept();
        eachDeed();
        stateAndBook();
        whatForgets();
        whatDoesNotForget();
        image();
        imageIsAll();
        imageIsNot();
        imageMoreThanOnce();
    }

    private StormSeeds ready() {
        StormSeeds x = new StormSeeds();
        tell(x, 0, KINDS);
        return x;
    }

    private void tell(StormSeeds x, int k, String text) {
        Check.put(x, text);
        b.given("text(" + k + ") of " + text, x.text(k) >= 0 ? 1 : 0, 1);
    }

    private void nothingToUndo() {
        b.promise(31, "UNDO: true; false if there is nothing.");
        StormSeeds x = new StormSeeds();
        b.beyond("of a new object", x.undo());
        x.turn(0);
        b.inside("one", x.undo());
        b.beyond("one more", x.undo());
        b.beyond("again", x.undo());
        b.inside("the WIND stays", x.look(3), 1);
        // What could not be done can't be undone.
        x.turn(1);
        x.sow(0, 0);
        x.weed(0);
        x.days(0);
        x.days(61);
        b.beyond("of what could not be done", x.undo());
        b.beyond("look(15)", x.look(15), 0);
    }

    private void sixAreKept() {
        b.terms(4, "6 are kept;");
        for (int deeds = 0; deeds <= 14; deeds++) {
            StormSeeds x = new StormSeeds();
            for (int i = 1; i <= deeds; i++) {
                x.turn((1 + i) % 4);
                b.side(i <= 6, "look(15) behind " + i, x.look(15), Math.min(6, i));
            }
            for (int i = 1; i <= Math.min(6, deeds); i++) {
                b.inside("undo " + i + " of " + deeds, x.undo());
                b.inside("the WIND then", x.look(3), (1 + deeds - i) % 4);
                b.inside("look(15) then", x.look(15), Math.min(6, deeds) - i);
            }
            b.beyond("one more of " + deeds, x.undo());
            b.beyond("the WIND stays", x.look(3), (1 + Math.max(0, deeds - 6)) % 4);
        }
        // Each DAY of days(n) is one.
        for (int n : new int[] {1, 5, 6, 7, 60}) {
            StormSeeds x = new StormSeeds();
            x.days(n);
            b.side(n <= 6, "look(15) behind days(" + n + ")", x.look(15), Math.min(6, n));
            for (int i = 1; i <= Math.min(6, n); i++) {
                b.inside("undo " + i + " of days(" + n + ")", x.undo());
                b.inside("DAY then", x.look(2), n - i);
            }
            b.beyond("one more of days(" + n + ")", x.undo());
        }
        // Undone ones make room: what is done anew is kept as well.
        StormSeeds x = new StormSeeds();
        x.days(6);
        for (int round = 0; round < 5; round++) {
            x.undo();
            x.undo();
            x.days(4);
            b.inside("six again", x.look(15), 6);
        }
        int day = x.look(2);
        for (int i = 1; i <= 6; i++) {
            b.inside("undo " + i, x.undo());
            b.inside("DAY then", x.look(2), day - i);
        }
        b.beyond("the 7th", x.undo());
    }

    private void eachDeed() {
        b.terms(4, "UNDO: the latest SOWING, WEEDING, TURNING, DAY not undone yet goes back");
        StormSeeds x = ready();
        x.sow(0, 9);
        x.turn(2);
        x.days(1);
        x.sow(1, 28);
        x.weed(28);
        x.days(1);
        b.given("a STORM", x.at(9, 4), 0);
        b.inside("the DAY", x.undo());
        b.inside("no STORM", x.at(9, 4), NONE);
        b.inside("the SEED again", x.at(9, 2), 0);
        b.inside("the DAY it was sown", x.at(9, 3), 0);
        b.inside("DAY 1", x.look(2), 1);
        b.inside("HARM 0", x.look(5), 0);
        b.inside("WET of DAY 1", x.at(9, 0), 2);
        b.inside("the WEEDING", x.undo());
        b.inside("its SEED", x.at(28, 2), 1);
        b.inside("sown on DAY 1", x.at(28, 3), 1);
        b.inside("the SOWING", x.undo());
        b.inside("no SEED", x.at(28, 2), NONE);
        b.inside("the first DAY", x.undo());
        b.inside("DAY 0", x.look(2), 0);
        b.inside("WET of DAY 0", x.at(9, 0), 3);
        b.inside("the TURNING", x.undo());
        b.inside("the WIND", x.look(3), 1);
        b.inside("the first SOWING", x.undo());
        b.inside("no SEEDS", x.look(8), 0);
        b.beyond("no more", x.undo());
        // What A PLAN does in a DAY goes back with the DAY alone.
        tell(x, 3, "on 0 sow 0 at 0;on 0 sow 0 at 1;on 0 weed 0;on 0 south;");
        x.days(1);
        b.beyond("look(15)", x.look(15), 1);
        b.inside("the DAY with its PLAN", x.undo());
        b.inside("the WIND", x.look(3), 1);
        b.inside("no SEEDS", x.look(8), 0);
        b.inside("A PLAN stays", x.look(14), 4);
        b.beyond("no more", x.undo());
    }

    private void stateAndBook() {
        b.terms(4, "(STATE, THE BOOK, too):");
        StormSeeds x = ready();
        x.state(-5);
        x.set(0, 0, 1000);
        x.days(6);
        b.given("lines", x.look(10) > 0 ? 1 : 0, 1);
        for (int i = 0; i < 6; i++) {
            x.undo();
        }
        b.inside("STATE", x.look(11), -5);
        b.inside("lines of THE BOOK", x.look(10), 0);
        b.beyond("line 0", x.book(0, 0), NONE);
        b.inside("SEEDS", x.look(8), 0);
        StormSeeds y = ready();
        y.sow(0, 0);
        y.sow(0, 1);
        y.undo();
        b.inside("one line", y.look(10), 1);
        b.beyond("line 1", y.book(1, 2), NONE);
        y.sow(1, 28);
        b.inside("another line 1", y.book(1, 2), 28);
        b.inside("its KIND", y.book(1, 3), 1);
        // With THE BOOK at its 149, 150 and beyond.
        StormSeeds z = ready();
        for (int i = 0; i < 74; i++) {
            z.sow(1, 28);
            z.weed(28);
        }
        int[] lines = {148, 149, 150, 150, 150};
        for (int i = 1; i < lines.length; i++) {
            z.sow(1, i);
            b.side(i <= 2, "lines behind " + i, z.look(10), lines[i]);
        }
        for (int i = lines.length - 2; i >= 0; i--) {
            b.inside("undo", z.undo());
            b.side(i <= 2, "lines then", z.look(10), lines[i]);
        }
    }

    private void whatForgets() {
        b.terms(4, "whatever else is told but THE LAW, WANTS (the taking of THE IMAGE does not) forgets them.");
        for (int what = 0; what < 10; what++) {
            StormSeeds x = ready();
            x.image(true);
            x.turn(0);
            x.turn(2);
            tellWhat(x, what);
            b.beyond("look(15) behind what is told, " + what, x.look(15), 0);
            b.beyond("undo behind what is told, " + what, x.undo());
            x.turn(3);
            b.inside("what is done then, " + what, x.undo());
        }
    }

    private void tellWhat(StormSeeds x, int what) {
        switch (what) {
            case 0: x.state(x.look(11)); break;
            case 1: x.land(5, 4); break;
            case 2: x.set(0, 0, 0); break;
            case 3: x.set(1, 0, 3); break;
            case 4: x.set(2, 0, 0); break;
            case 5: x.set(2, 0, 1); break;
            case 6: tell(x, 0, KINDS); break;
            case 7: tell(x, 3, "on 5 east;"); break;
            case 8: tell(x, 3, ""); break;
            default: x.image(false); break;
        }
    }

    private void whatDoesNotForget() {
        b.terms(4, "but THE LAW, WANTS (the taking of THE IMAGE does not)");
        StormSeeds x = ready();
        x.turn(0);
        tell(x, 1, "gust 7;");
        b.inside("THE LAW", x.look(15), 1);
        tell(x, 1, "");
        b.inside("THE LAW, empty", x.look(15), 1);
        tell(x, 2, "want calm at 0 on 9 worth 1;");
        b.inside("WANTS", x.look(15), 1);
        tell(x, 2, "");
        b.inside("WANTS, empty", x.look(15), 1);
        x.image(true);
        b.inside("the taking of THE IMAGE", x.look(15), 1);
        // What is refused is not told.
        for (int k = 0; k <= 3; k++) {
            Check.put(x, "!");
            b.given("a FAULT", x.text(k), NONE);
        }
        x.text(4);
        x.text(-1);
        x.land(1, 4);
        x.land(8, 4);
        x.set(0, 0, 1001);
        x.set(1, 5, 1);
        x.set(2, 0, 2);
        x.set(3, 0, 0);
        x.turn(0);
        x.days(61);
        x.feed(0, 0, 0, 0, 0);
        x.end(21);
        x.end(0);
        b.inside("what is refused", x.look(15), 1);
        tell(x, 1, "gust 6;");
        tell(x, 2, "want calm at 1 on 9 worth 2;");
        b.inside("undo", x.undo());
        b.inside("THE LAW stays as it was told", x.gust(0, 0, 0), 6);
        b.inside("WANTS stay as they were told", x.meets(0), 2);
        x.turn(0);
        tell(x, 3, "");
        b.beyond("A PLAN does forget", x.undo());
    }

    private void image() {
        b.promise(32, "THE IMAGE is taken (true), or gone back to (false): true; false if there is none.");
        StormSeeds x = new StormSeeds();
        b.beyond("gone back to, none", x.image(false));
        b.beyond("again", x.image(false));
        b.inside("taken", x.image(true));
        b.inside("gone back to", x.image(false));
        b.inside("once more", x.image(false));
        b.inside("taken again", x.image(true));
        StormSeeds y = new StormSeeds();
        b.beyond("of another object", y.image(false));
        y.turn(0);
        b.beyond("gone back to, none", y.image(false));
        b.beyond("nothing is done", y.look(3), 0);
        b.beyond("nor forgotten", y.look(15), 1);
    }

    private void imageIsAll() {
        b.terms(4, "THE IMAGE: all that is and was told but the TAPE, fault() and what can be undone (nothing then), as it was when it was taken;");
        StormSeeds x = new StormSeeds();
        x.land(3, 2);
        tell(x, 0, KINDS + "cross 0 with 1 to 0;");
        tell(x, 1, "gust 4;harm 9;");
        tell(x, 2, "want calm at 0 on 5 worth 7;");
        x.set(0, 0, 1);
        x.set(1, 10, 9);
        x.set(2, 2, 1);
        x.state(55);
        x.sow(0, 0);
        x.days(2);
        x.sow(1, 9);
        tell(x, 3, "on 9 sow 0 at 1;on 9 north;");
        x.turn(3);
        long[] before = seen(x);
        x.image(true);
        b.beyond("what can be undone stays at the taking", x.look(15), 1);
        x.land(7, 7);
        tell(x, 0, "kind 2 lasts 2 spread 2;".repeat(8));
        tell(x, 1, "gust 1;harm 1;harm 2;");
        tell(x, 2, "want 0 at 54 on 9 worth 1;".repeat(10));
        tell(x, 3, "on 1 east;".repeat(16));
        x.set(0, 0, 1000);
        x.state(-1);
        x.sow(7, 54);
        x.days(60);
        b.inside("gone back to", x.image(false));
        long[] after = seen(x);
        for (int i = 0; i < before.length; i++) {
            if (i == 15) {
                b.beyond("look(15)", after[i], 0);
            } else {
                b.inside("answer " + i, after[i], before[i]);
            }
        }
        b.beyond("undo", x.undo());
        b.inside("its last line of THE BOOK", x.book(x.look(10) - 1, 1), 0);
        b.inside("no more than it had", x.book(x.look(10), 0), NONE);
    }

    private static long[] seen(StormSeeds x) {
        long[] all = new long[120];
        int n = 0;
        for (int i = 0; i < 16; i++) {
            all[n++] = x.look(i);
        }
        for (int cell : new int[] {0, 1, 2, 3, 8, 9, 10, 16}) {
            for (int what = 0; what < 10; what++) {
                all[n++] = x.at(cell, what);
            }
        }
        for (int kind = 0; kind < 3; kind++) {
            for (int what = 0; what < 3; what++) {
                all[n++] = x.kind(kind, what);
            }
        }
        all[n++] = x.cross(1, 0);
        all[n++] = x.gust(1, 9, 5);
        all[n++] = x.meets(0);
        all[n++] = x.meets(1);
        all[n++] = x.blows(9);
        all[n++] = x.harms(60);
        return all;
    }

    private void imageIsNot() {
        b.terms(4, "but the TAPE, fault() and what can be undone (nothing then)");
        StormSeeds x = ready();
        Check.put(x, "gust 5;");
        x.turn(0);
        x.image(true);
        b.inside("what can be undone at the taking", x.look(15), 1);
        b.inside("the TAPE at the taking", x.text(1), 1);
        Check.put(x, "gust 1/0;");
        b.given("a FAULT", x.text(1), NONE);
        Check.put(x, "gust 6;gust 7;");
        x.turn(2);
        x.image(false);
        b.beyond("fault(0) stays", x.fault(0), 2);
        b.beyond("fault(1) stays", x.fault(1), 7);
        b.beyond("the TAPE stays", x.text(1), 2);
        b.beyond("nothing to undo", x.undo());
        b.inside("the WIND of THE IMAGE", x.look(3), 0);
    }

    private void imageMoreThanOnce() {
        b.terms(4, "gone back to it may be more than once.");
        StormSeeds x = ready();
        x.sow(0, 0);
        x.image(true);
        for (int round = 0; round < 8; round++) {
            x.days(2 + round);
            b.given("a STORM", x.at(0, 4), 0);
            b.inside("round " + round, x.image(false));
            b.inside("DAY", x.look(2), 0);
            b.inside("the SEED", x.at(0, 2), 0);
            b.inside("no STORM", x.at(0, 4), NONE);
            b.inside("lines", x.look(10), 1);
            b.inside("WET", x.at(28, 0), 3);
        }
        x.days(2);
        x.image(true);
        x.weed(0);
        x.land(2, 2);
        b.inside("the latest one alone", x.image(false));
        b.inside("its DAY", x.look(2), 2);
        b.beyond("not the first one's", x.at(0, 2), NONE);
    }
}
