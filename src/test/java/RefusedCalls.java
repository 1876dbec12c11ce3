import java.util.ArrayList;
import java.util.List;
import java.util.function.ToLongFunction;

/** Calls that are refused, or that only ask: nothing that is seen of an object is another one behind them. */
final class RefusedCalls {
    private static final int LEAST = Integer.MIN_VALUE;
    private static final int MOST = Integer.MAX_VALUE;
    private static final int NONE = StormSeeds.NONE;
    private static final int[] ODD = {LEAST, -1000001, -65, -2, -1, 64, 65, 1001, MOST};

    private final Bounds b;

    RefusedCalls(Bounds b) {
        this.b = b;
    }

    void ask() {
        b.promise(3, "false, and nothing is done, if they can't be.");
        nothing("land(3, 2)", x -> x.land(3, 2) ? 1 : 0, 1, false);
        for (int odd : ODD) {
            nothing("land(" + odd + ", 3)", x -> x.land(odd, 3) ? 1 : 0, 0, true);
            nothing("land(3, " + odd + ")", x -> x.land(3, odd) ? 1 : 0, 0, true);
        }
        nothing("land(1, 2)", x -> x.land(1, 2) ? 1 : 0, 0, true);
        nothing("land(2, 8)", x -> x.land(2, 8) ? 1 : 0, 0, true);
        settings();
        tape();
        deeds();
        images();
        questions();
    }

    private void settings() {
        b.promise(4, "true; false if it can't be, or another what.");
        nothing("set(0, 0, 7)", x -> x.set(0, 0, 7) ? 1 : 0, 1, false);
        for (int odd : ODD) {
            nothing("set(" + odd + ", 0, 1)", x -> x.set(odd, 0, 1) ? 1 : 0, 0, true);
            nothing("set(0, 0, " + odd + ")", x -> x.set(0, 0, odd == 64 || odd == 65 ? 1001 : odd) ? 1 : 0, 0, true);
            for (int what = 1; what <= 2; what++) {
                int w = what;
                nothing("set(" + w + ", " + odd + ", 1)", x -> x.set(w, odd, 1) ? 1 : 0, 0, true);
                nothing("set(" + w + ", 2, " + odd + ")", x -> x.set(w, 2, odd) ? 1 : 0, 0, true);
            }
        }
        nothing("set(1, 0, 10)", x -> x.set(1, 0, 10) ? 1 : 0, 0, true);
        nothing("set(2, 1, 0) at a SEED", x -> x.set(2, 1, 0) ? 1 : 0, 0, true);
        nothing("set(2, 1, 1) at a SEED", x -> x.set(2, 1, 1) ? 1 : 0, 0, true);
        nothing("set(3, 0, 0)", x -> x.set(3, 0, 0) ? 1 : 0, 0, true);
    }

    private void tape() {
        b.promise(6, "false, changing nothing, if it has not so many, or n is below 0.");
        nothing("end(3)", x -> x.end(3) ? 1 : 0, 1, false);
        nothing("end(8)", x -> x.end(8) ? 1 : 0, 0, true);
        nothing("end(7), as many as it has", x -> x.end(7) ? 1 : 0, 1, true);
        for (int odd : ODD) {
            nothing("end(" + odd + ")", x -> x.end(odd) ? 1 : 0, 0, true);
        }

        b.promise(7, "the TAPE is empty in each case");
        for (int k : new int[] {LEAST, -1, 4, 5, MOST}) {
            StormSeeds x = ready();
            b.beyond("text(" + k + ")", x.text(k), NONE);
            b.beyond("the TAPE is empty", x.end(1));
            b.beyond("what can be undone stays", x.look(15), 3);
        }
        StormSeeds x = ready();
        b.inside("text(1)", x.text(1), 1);
        b.inside("the TAPE is empty", x.end(1) ? 1 : 0, 0);
        for (int k = 0; k <= 3; k++) {
            StormSeeds y = ready();
            y.end(0);
            y.feed(0x21212121, 0, 0, 0, 0);
            long[] before = seen(y);
            b.beyond("text(" + k + ") with a FAULT", y.text(k), NONE);
            long[] after = seen(y);
            // The first three answers are of the TAPE and of fault().
            for (int i = 3; i < before.length; i++) {
                b.beyond("answer " + i + " behind it", after[i], before[i]);
            }
        }
    }

    private void deeds() {
        b.promise(9, "true; false if it can't be.");
        nothing("sow(0, 2)", x -> x.sow(0, 2) ? 1 : 0, 1, false);
        for (int odd : ODD) {
            nothing("sow(" + odd + ", 2)", x -> x.sow(odd, 2) ? 1 : 0, 0, true);
            nothing("sow(0, " + odd + ")", x -> x.sow(0, odd) ? 1 : 0, 0, true);
        }
        nothing("sow(0, 1) at a SEED", x -> x.sow(0, 1) ? 1 : 0, 0, true);
        nothing("sow(0, 9) at a HEDGE", x -> x.sow(0, 9) ? 1 : 0, 0, true);
        nothing("sow(2, 2) of no KIND", x -> x.sow(2, 2) ? 1 : 0, 0, true);

        b.promise(10, "true; false if it can't be.");
        nothing("weed(1)", x -> x.weed(1) ? 1 : 0, 1, false);
        nothing("weed(0) at a STORM", x -> x.weed(0) ? 1 : 0, 0, true);
        nothing("weed(2)", x -> x.weed(2) ? 1 : 0, 0, true);
        for (int odd : ODD) {
            nothing("weed(" + odd + ")", x -> x.weed(odd) ? 1 : 0, 0, true);
        }

        b.promise(11, "false if it can't be (the same).");
        nothing("turn(0)", x -> x.turn(0) ? 1 : 0, 1, false);
        nothing("turn(2), the same", x -> x.turn(2) ? 1 : 0, 0, true);
        nothing("turn(4)", x -> x.turn(4) ? 1 : 0, 0, true);
        for (int odd : ODD) {
            nothing("turn(" + odd + ")", x -> x.turn(odd) ? 1 : 0, 0, true);
        }

        b.promise(12, "NONE, and nothing is done, if one can't be");
        nothing("days(1)", x -> x.days(1), 0, false);
        nothing("days(0)", x -> x.days(0), NONE, true);
        nothing("days(61)", x -> x.days(61), NONE, true);
        for (int odd : ODD) {
            nothing("days(" + odd + ")", x -> x.days(odd), NONE, true);
        }
    }

    private void images() {
        b.promise(32, "true; false if there is none.");
        nothing("image(false)", x -> x.image(false) ? 1 : 0, 0, true);
        nothing("image(true)", x -> x.image(true) ? 1 : 0, 1, true);
        nothing("state(-9)", x -> x.state(-9), 5, false);
    }

    /** Calls that ask, inside of their bounds and beyond them. */
    private void questions() {
        b.terms(4, "IN THOUGHT (nothing of it stays;");
        List<ToLongFunction<StormSeeds>> all = new ArrayList<>();
        for (int odd : new int[] {LEAST, -1, 0, 1, 2, 9, 10, 11, 60, 61, 63, 64, 99, 100, 1000, 1001, MOST}) {
            all.add(x -> x.fault(odd));
            all.add(x -> x.at(odd, 0));
            all.add(x -> x.at(0, odd));
            all.add(x -> x.kind(odd, 0));
            all.add(x -> x.kind(0, odd));
            all.add(x -> x.cross(odd, 0));
            all.add(x -> x.gust(odd, 0, 0));
            all.add(x -> x.gust(0, odd, 0));
            all.add(x -> x.gust(0, 0, odd));
            all.add(x -> x.book(odd, 0));
            all.add(x -> x.book(0, odd));
            all.add(x -> x.blows(odd));
            all.add(x -> x.harms(odd));
            all.add(x -> x.meets(odd));
            all.add(x -> x.sows(odd, 0));
            all.add(x -> x.sows(0, odd));
            all.add(x -> x.gets(odd, 0, 2));
            all.add(x -> x.gets(0, odd, 2));
            all.add(x -> x.gets(0, 0, odd));
            all.add(x -> x.weeds(odd, 9, 0));
            all.add(x -> x.weeds(1, odd, 0));
            all.add(x -> x.weeds(1, 9, odd));
            all.add(x -> x.have(odd));
            all.add(x -> x.generations(odd, 0));
            all.add(x -> x.generations(1, odd));
            all.add(x -> x.who(odd, 3, 0));
            all.add(x -> x.who(0, odd, 0));
            all.add(x -> x.who(0, 3, odd));
            all.add(x -> x.calm(odd, 9, 0));
            all.add(x -> x.calm(0, odd, 0));
            all.add(x -> x.calm(0, 9, odd));
            all.add(x -> x.good(odd, 9));
            all.add(x -> x.good(9, odd));
            all.add(x -> x.open(odd, 9));
            all.add(x -> x.open(9, odd));
            all.add(x -> x.game(odd));
            all.add(x -> x.look(odd));
        }
        // Some thirty questions of one object at once: it is asked no more than 512 calls.
        for (int from = 0; from < all.size(); from += 30) {
            int first = from;
            nothing("questions from " + from, x -> {
                for (int i = first; i < all.size() && i < first + 30; i++) {
                    all.get(i).applyAsLong(x);
                }
                return 0;
            }, 0, true);
        }
        nothing("a DAY, which is none of them", x -> x.days(1), 0, false);
    }

    /** DAY 3 of a land of three by two: a STORM, a SEED, a HEDGE, a FAULT, a text on the TAPE, three to be undone. */
    private StormSeeds ready() {
        StormSeeds x = new StormSeeds();
        x.land(3, 2);
        tell(x, 0, "kind 1 lasts 9 spread 1;kind 9 lasts 1 spread 2;cross 0 with 1 to 1;");
        tell(x, 1, "gust 3;harm wet+1;");
        tell(x, 2, "want 0 at 0 on 9 worth 7;want calm at 1 on 4 worth 6;");
        tell(x, 3, "on 5 sow 0 at 2;on 6 west;");
        x.set(0, 0, 1);
        x.set(2, 9, 1);
        x.sow(0, 0);
        x.days(2);
        x.state(5);
        x.turn(2);
        x.sow(1, 1);
        x.days(1);
        Check.put(x, "gust 1/0;");
        b.given("a FAULT", x.text(1), NONE);
        x.state(5);
        x.turn(1);
        x.turn(0);
        x.turn(2);
        b.given("STORMS", x.look(9), 1);
        b.given("SEEDS", x.look(8), 1);
        Check.put(x, "gust 2;");
        return x;
    }

    private void tell(StormSeeds x, int k, String text) {
        Check.put(x, text);
        b.given("text(" + k + ") of " + text, x.text(k) >= 0 ? 1 : 0, 1);
    }

    /** What is seen of an object; the first three answers are of the TAPE and of fault(). */
    private static long[] seen(StormSeeds x) {
        long[] all = new long[160];
        int n = 0;
        all[n++] = x.fault(0);
        all[n++] = x.fault(1);
        // Only what is too long for the TAPE is asked of it: that changes nothing.
        all[n++] = x.end(8) ? 1 : 0;
        for (int i = 0; i < 16; i++) {
            all[n++] = x.look(i);
        }
        for (int cell : new int[] {0, 1, 2, 8, 9, 10, 3, 16}) {
            for (int what = 0; what < 10; what++) {
                all[n++] = x.at(cell, what);
            }
        }
        for (int kind = 0; kind < 3; kind++) {
            for (int what = 0; what < 5; what++) {
                all[n++] = x.kind(kind, what);
            }
            all[n++] = x.gust(kind, 1, 4);
            all[n++] = x.cross(kind, 1);
        }
        int lines = x.look(10);
        for (int what = 0; what < 4; what++) {
            all[n++] = x.book(0, what);
            all[n++] = x.book(lines - 1, what);
            all[n++] = x.book(lines, what);
        }
        all[n++] = x.meets(0);
        all[n++] = x.meets(1);
        all[n++] = x.blows(9);
        all[n++] = x.harms(40);
        return all;
    }

    /** Asks whether all that is seen of an object is the same behind a call, by what it should be. */
    private void nothing(String call, ToLongFunction<StormSeeds> what, long due, boolean isSame) {
        StormSeeds x = ready();
        long[] before = seen(x);
        b.side(!isSame, call, what.applyAsLong(x), due);
        long[] after = seen(x);
        boolean isAlike = true;
        for (int i = 0; i < before.length; i++) {
            isAlike &= before[i] == after[i];
        }
        isAlike &= x.end(7) && x.text(1) == 1;
        int undone = 0;
        while (undone < 9 && x.undo()) {
            undone++;
        }
        isAlike &= undone == 3 && x.look(3) == 2;
        b.side(!isSame, "all is the same behind " + call, isAlike ? 1 : 0, isSame ? 1 : 0);
    }
}
