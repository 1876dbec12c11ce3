import java.nio.charset.StandardCharsets;
import java.util.Random;

/** Random runs of calls, each answer compared with that of the second model; the seeds are fixed. */
public final class RandomRunsTest {
    private static final int CALLS = 512;

    private final Random random;
    private final Check check;
    private final int run;
    private StormSeeds x = new StormSeeds();
    private Model m = new Model();
    private int calls = 0;
    private int kinds = 3;

    private RandomRunsTest(int run, Check check) {
        this.run = run;
        this.check = check;
        random = new Random(run * 7919L + 13);
    }

    public static void main(String[] args) {
        int runs = args.length > 0 ? Integer.parseInt(args[0]) : 1500;
        Check check = new Check();
        for (int run = 0; run < runs; run++) new RandomRunsTest(run, check).go();
        check.end();
    }

    private int upTo(int n) { return random.nextInt(n); }

    private boolean one(int of) { return random.nextInt(of) == 0; }

    private void due(String call, long got, long want) {
        calls++;
        check.due("run " + run + " call " + calls + " " + call, got, want);
    }

    private void due(String call, boolean got, boolean want) { due(call, got ? 1 : 0, want ? 1 : 0); }

    private int odd() {
        int[] all = {Integer.MIN_VALUE, -1000000000, -9, -2, -1, 0, 1, 8, 10, 61, 62, 63, 64, 65, 100, 1001, Integer.MAX_VALUE};
        return all[upTo(all.length)];
    }

    private int cell() {
        if (one(25)) return odd();
        if (one(25)) return upTo(64);
        return 8 * upTo(m.look(1)) + upTo(m.look(0));
    }

    private int kind() { return one(25) ? odd() : upTo(Math.max(1, m.look(6) + (one(10) ? 1 : 0))); }

    private int number(int n) { return one(20) ? odd() : upTo(n); }

    private void tell(int k, String text) {
        byte[] bytes = text.getBytes(StandardCharsets.ISO_8859_1);
        int size = Math.min(400, (bytes.length + 19) / 20 * 20);
        int[] n = new int[size / 4];
        for (int i = 0; i < size; i++) n[i / 4] = n[i / 4] << 8 | (i < bytes.length ? bytes[i] & 255 : 32);
        for (int i = 0; i < n.length; i += 5) {
            due("feed", x.feed(n[i], n[i + 1], n[i + 2], n[i + 3], n[i + 4]), m.feed(n[i], n[i + 1], n[i + 2], n[i + 3], n[i + 4]));
        }
        int length = Math.min(400, bytes.length);
        due("end", x.end(length), m.end(length));
        due("text(" + k + ") of \"" + text + "\"", x.text(k), m.text(k));
        due("fault(0) of \"" + text + "\"", x.fault(0), m.fault(0));
        due("fault(1) of \"" + text + "\"", x.fault(1), m.fault(1));
    }

    /** Now and then one sign is put, taken away or made another. */
    private String spoiled(String text) {
        if (!one(4) || text.isEmpty()) return text;
        StringBuilder s = new StringBuilder(text);
        int at = upTo(s.length());
        String signs = ";+-*/()<=>019aZ \n\t,.\u00e9not";
        switch (upTo(4)) {
            case 0: s.deleteCharAt(at); break;
            case 1: s.insert(at, signs.charAt(upTo(signs.length()))); break;
            case 2: s.setCharAt(at, signs.charAt(upTo(signs.length()))); break;
            default: s.setLength(at); break;
        }
        return s.toString();
    }

    private String kindsText() {
        StringBuilder s = new StringBuilder();
        kinds = one(8) ? upTo(10) : 1 + upTo(5);
        for (int i = 0; i < kinds; i++) {
            s.append("kind ").append(one(30) ? upTo(24) : 1 + upTo(4)).append(" lasts ").append(one(30) ? upTo(12) : 1 + upTo(4))
                    .append(" spread ").append(one(30) ? 7 : upTo(5)).append(one(3) ? " ;\n" : ";");
        }
        int crossings = kinds == 0 ? 0 : one(8) ? upTo(13) : upTo(6);
        for (int i = 0; i < crossings; i++) {
            s.append("cross ").append(upTo(kinds + (one(20) ? 1 : 0))).append(" with ").append(upTo(kinds)).append(" to ").append(upTo(kinds)).append(";");
        }
        return spoiled(s.toString());
    }

    private String unit() {
        String[] words = {"kind", "wet", "soil", "beside", "day", "edge", "hedges", "storm"};
        return one(3) ? "" + (one(10) ? upTo(12000) : upTo(12)) : words[upTo(8)];
    }

    private String sum() {
        StringBuilder s = new StringBuilder(unit());
        for (int i = upTo(4); i > 0; i--) {
            int sign = upTo(4);
            s.append(one(3) ? " " : "").append("+-*/".charAt(sign)).append(sign == 3 ? "" + upTo(one(9) ? 5 : 4) + (one(8) ? "" : "1") : unit());
        }
        return s.toString();
    }

    private String condition(int depth) {
        if (depth > 0 && one(3)) return "not " + condition(depth - 1);
        if (depth > 0 && one(2)) return "(" + condition(depth - 1) + (one(2) ? " and " : " or ") + condition(depth - 1) + ")";
        if (depth > 0 && one(2)) return condition(depth - 1) + (one(2) ? " and " : " or ") + condition(depth - 1);
        return sum() + "<=>".charAt(upTo(3)) + sum();
    }

    private String lawText() {
        StringBuilder s = new StringBuilder();
        if (one(12)) {
            s.append("gust 1 when ");
            int deep = 7 + upTo(3);
            for (int i = 0; i < deep; i++) s.append(one(2) ? "(" : "not ");
            s.append("day<3");
            for (int i = 0; i < deep; i++) if (s.indexOf("(") >= 0 && one(2)) s.append(")");
            return s.append(";").toString();
        }
        int lines = one(15) ? 20 : upTo(6);
        for (int i = 0; i < lines; i++) {
            s.append(one(2) ? "gust " : "harm ").append(lines > 16 ? "1" : sum());
            if (lines <= 16 && !one(3)) s.append(" when ").append(condition(upTo(4)));
            s.append(";");
        }
        return spoiled(s.toString());
    }

    private String wantsText() {
        StringBuilder s = new StringBuilder();
        int lines = one(20) ? 12 : upTo(5);
        for (int i = 0; i < lines; i++) {
            s.append("want ").append(one(3) ? "calm" : "" + Math.max(0, kind())).append(" at ").append(Math.abs(cell() % 10000))
                    .append(" on ").append(one(20) ? upTo(1010) : m.look(2) + upTo(one(5) ? 70 : 12)).append(" worth ").append(one(20) ? upTo(101) : 1 + upTo(99)).append(";");
        }
        return spoiled(s.toString());
    }

    private String planText() {
        StringBuilder s = new StringBuilder();
        int lines = one(20) ? 18 : upTo(8);
        String[] winds = {"north", "east", "south", "west"};
        for (int i = 0; i < lines; i++) {
            s.append("on ").append(one(30) ? 1000 : m.look(2) + upTo(15)).append(" ");
            int what = upTo(4);
            if (what < 2) s.append("sow ").append(Math.max(0, kind())).append(" at ").append(Math.abs(cell() % 10000));
            else if (what == 2) s.append("weed ").append(Math.abs(cell() % 10000));
            else s.append(winds[upTo(4)]);
            s.append(";");
        }
        return spoiled(s.toString());
    }

    private void go() {
        if (!one(3)) {
            int w = 2 + upTo(6), h = 2 + upTo(6);
            due("land", x.land(w, h), m.land(w, h));
        }
        tell(0, kindsText());
        if (m.look(6) == 0) tell(0, "kind 1 lasts 2 spread 3;kind 2 lasts 1 spread 2;cross 0 with 1 to 1;");
        if (one(6)) {
            // Near the last DAY, where days() is refused and thought goes on.
            for (int i = 0; i < 16; i++) due("days(60)", x.days(60), m.days(60));
            int n = 1 + upTo(39);
            due("days(" + n + ")", x.days(n), m.days(n));
        }
        while (calls < CALLS - 60) {
            step();
            if (one(10)) compareAll();
        }
    }

    private void compareAll() {
        for (int i = 0; i < 16; i++) due("look(" + i + ")", x.look(i), m.look(i));
        int c = cell();
        for (int i = 0; i < 10; i++) due("at(" + c + ", " + i + ")", x.at(c, i), m.at(c, i));
        int line = Math.max(0, m.look(10) - 1 - upTo(4));
        for (int i = 0; i < 4; i++) due("book(" + line + ", " + i + ")", x.book(line, i), m.book(line, i));
    }

    private void step() {
        switch (upTo(28)) {
            case 0: case 1: case 2: case 3: { int k = kind(), c = cell(); due("sow(" + k + ", " + c + ")", x.sow(k, c), m.sow(k, c)); break; }
            case 4: { int c = cell(); due("weed(" + c + ")", x.weed(c), m.weed(c)); break; }
            case 5: { int w = number(5); due("turn(" + w + ")", x.turn(w), m.turn(w)); break; }
            case 6: case 7: case 8: { int n = one(12) ? number(62) : 1 + upTo(3); due("days(" + n + ")", x.days(n), m.days(n)); break; }
            case 9: { int w = one(10) ? odd() : upTo(3), c = cell(), v = w == 0 ? (one(3) ? odd() : upTo(900)) : w == 1 ? number(11) : number(3); due("set(" + w + ", " + c + ", " + v + ")", x.set(w, c, v), m.set(w, c, v)); break; }
            case 10: if (one(4)) { int v = random.nextInt(); due("state(" + v + ")", x.state(v), m.state(v)); } break;
            case 11: if (one(25)) { int w = 1 + upTo(8), h = 1 + upTo(8); due("land(" + w + ", " + h + ")", x.land(w, h), m.land(w, h)); } break;
            case 12: if (one(6)) tell(upTo(12) == 0 ? odd() : upTo(4), one(5) ? "" : new String[] {kindsText(), lawText(), wantsText(), planText()}[upTo(4)]); break;
            case 13: if (one(2)) tell(1, lawText()); break;
            case 14: if (one(2)) tell(2, wantsText()); break;
            case 15: if (one(2)) tell(3, planText()); break;
            case 16: if (one(8)) tell(0, kindsText()); break;
            case 17: due("undo()", x.undo(), m.undo()); break;
            case 18: if (one(4)) { boolean t = one(2); due("image(" + t + ")", x.image(t), m.image(t)); } break;
            case 19: askKinds(); break;
            case 20: { int n = number(61); due("blows(" + n + ")", x.blows(n), m.blows(n)); n = number(61); due("harms(" + n + ")", x.harms(n), m.harms(n)); break; }
            case 21: for (int i = 0; i < 3; i++) if (m.look(2) > 900 || one(8)) due("meets(" + i + ")", x.meets(i), m.meets(i)); break;
            case 22: { int w = number(5), q = upTo(4); due("sows(" + w + ", " + q + ")", x.sows(w, q), m.sows(w, q)); break; }
            case 23: { int k = kind(), f = cell(), t = cell(); due("gets(" + k + ", " + f + ", " + t + ")", x.gets(k, f, t), m.gets(k, f, t)); break; }
            case 24: { long s = one(20) ? random.nextLong() : 1L << (cell() & 63) | 1L << (cell() & 63); int n = one(20) ? odd() : 1 + upTo(8), q = upTo(3); due("weeds(" + s + ", " + n + ", " + q + ")", x.weeds(s, n, q), m.weeds(s, n, q)); break; }
            case 25: { int c = cell(), v = number(10), q = number(3); due("who(" + c + ", " + v + ", " + q + ")", x.who(c, v, q), m.who(c, v, q)); break; }
            case 26: { int c = cell(), n = number(61), q = number(2); due("calm(" + c + ", " + n + ", " + q + ")", x.calm(c, n, q), m.calm(c, n, q)); break; }
            default: askSums(); break;
        }
    }

    private void askKinds() {
        int i = kind(), what = number(6), other = kind();
        due("kind(" + i + ", " + what + ")", x.kind(i, what), m.kind(i, what));
        due("cross(" + i + ", " + other + ")", x.cross(i, other), m.cross(i, other));
        int c = cell(), n = number(101);
        due("gust(" + i + ", " + c + ", " + n + ")", x.gust(i, c, n), m.gust(i, c, n));
        int set = one(10) ? random.nextInt() : upTo(1 << Math.min(8, m.look(6)));
        due("have(" + set + ")", x.have(set), m.have(set));
        due("generations(" + set + ", " + i + ")", x.generations(set, i), m.generations(set, i));
    }

    private void askSums() {
        int n = number(61), p = one(3) ? upTo(1001) : number(120), g = number(100), what = number(3);
        due("good(" + n + ", " + p + ")", x.good(n, p), m.good(n, p));
        due("open(" + p + ", " + g + ")", x.open(p, g), m.open(p, g));
        due("game(" + what + ")", x.game(what), m.game(what));
        int i = one(3) ? odd() : upTo(150), w = number(5);
        due("book(" + i + ", " + w + ")", x.book(i, w), m.book(i, w));
        int f = one(4) ? odd() : upTo(3);
        due("fault(" + f + ")", x.fault(f), m.fault(f));
        int e = odd();
        due("look(" + e + ")", x.look(e), m.look(e));
    }
}
