import java.util.ArrayList;
import java.util.List;
import java.util.TreeMap;
import java.util.TreeSet;

/** A second, plainer telling of the document, to compare random runs with. */
final class Model {
    static final int NONE = -1;

    record Kind(int soil, int lasts, int spread) { }
    record Crossing(int a, int b, int to) { }
    record Want(int kind, int cell, int day, int worth) { }
    record Deed(int day, String what, int value, int cell) { }
    record Seed(int kind, int day) { }
    record Storm(int kind, int gust, int last) { }
    record Note(int day, int what, int cell, int kind) { }
    record LawLine(boolean gust, Sum sum, Test when) { }

    interface Sum { int of(int[] values); }
    interface Test { boolean of(int[] values); }

    static final class Fault extends RuntimeException {
        private static final long serialVersionUID = 1;
        final int what;
        final int place;
        Fault(int what, int place) { this.what = what; this.place = place; }
    }

    /** All that is and was told but the tape, the fault, undo and the image. */
    static final class World implements Cloneable {
        int w = 5, h = 4, day = 0, wind = 1, birds = 0, harm = 0, state = 0;
        TreeMap<Integer, Integer> wet = new TreeMap<>();
        TreeSet<Integer> hedges = new TreeSet<>();
        TreeMap<Integer, Seed> seeds = new TreeMap<>();
        TreeMap<Integer, Storm> storms = new TreeMap<>();
        List<Kind> kinds = List.of();
        List<Crossing> crossings = List.of();
        List<LawLine> law = List.of();
        List<Want> wants = List.of();
        List<Deed> plan = List.of();
        ArrayList<Note> book = new ArrayList<>();
        boolean thinks = false;

        World twin() {
            World n = new World();
            n.w = w; n.h = h; n.day = day; n.wind = wind; n.birds = birds; n.harm = harm; n.state = state;
            n.wet = new TreeMap<>(wet);
            n.hedges = new TreeSet<>(hedges);
            n.seeds = new TreeMap<>(seeds);
            n.storms = new TreeMap<>(storms);
            n.kinds = kinds; n.crossings = crossings; n.law = law; n.wants = wants; n.plan = plan;
            n.book = new ArrayList<>(book);
            n.thinks = thinks;
            return n;
        }

        World inThought() {
            World n = twin();
            n.thinks = true;
            return n;
        }

        boolean cell(int c) {
            for (int y = 0; y < h; y++) for (int x = 0; x < w; x++) if (c == 8 * y + x) return true;
            return false;
        }

        List<Integer> cells() {
            List<Integer> all = new ArrayList<>();
            for (int y = 0; y < h; y++) for (int x = 0; x < w; x++) all.add(8 * y + x);
            return all;
        }

        int wet(int c) { return wet.getOrDefault(c, 3); }

        List<Integer> beside(int c) {
            List<Integer> all = new ArrayList<>();
            int x = c % 8, y = c / 8;
            if (y > 0) all.add(c - 8);
            if (x < w - 1) all.add(c + 1);
            if (y < h - 1) all.add(c + 8);
            if (x > 0) all.add(c - 1);
            return all;
        }

        int ask(boolean gust, int kind, int c, int soil) {
            int x = c % 8, y = c / 8;
            int storm = storms.containsKey(c) ? storms.get(c).gust : 0;
            int stormsBeside = 0, hedgesBeside = 0;
            for (int b : beside(c)) {
                if (storms.containsKey(b)) stormsBeside++;
                if (hedges.contains(b)) hedgesBeside++;
            }
            int edge = x == 0 || x == w - 1 || y == 0 || y == h - 1 ? 1 : 0;
            int[] values = {kind, wet(c), gust ? soil : 0, stormsBeside, day, edge, hedgesBeside, storm};
            int answer = gust ? 1 + wet(c) / 2 : storm;
            for (LawLine line : law) {
                if (line.gust == gust && (line.when == null || line.when.of(values))) {
                    answer = line.sum.of(values);
                    break;
                }
            }
            int most = gust ? 9 : 99;
            return answer < 0 ? 0 : answer > most ? most : answer;
        }

        int crossing(int a, int b) {
            for (Crossing c : crossings) {
                if (c.a == a && c.b == b || c.a == b && c.b == a) return c.to;
            }
            return NONE;
        }

        void note(int what, int c, int kind) {
            if (!thinks && book.size() < 150) book.add(new Note(day, what, c, kind));
        }

        boolean sow(int kind, int c) {
            if (kind < 0 || kind >= kinds.size() || !cell(c) || seeds.containsKey(c) || hedges.contains(c)) return false;
            seeds.put(c, new Seed(kind, day));
            note(0, c, kind);
            return true;
        }

        boolean weed(int c) {
            if (!seeds.containsKey(c)) return false;
            note(1, c, seeds.remove(c).kind);
            return true;
        }

        boolean turn(int wind) {
            if (wind < 0 || wind > 3 || wind == this.wind) return false;
            this.wind = wind;
            return true;
        }

        int draw(int m) {
            state = state * 1664525 + 1013904223;
            return (int) ((state & 0xFFFFFFFFL) / 256 % m);
        }

        /** (a), (b), (c). */
        int blow() {
            for (Deed d : plan) {
                if (d.day != day) continue;
                switch (d.what) {
                    case "sow": sow(d.value, d.cell); break;
                    case "weed": weed(d.cell); break;
                    case "north": turn(0); break;
                    case "east": turn(1); break;
                    case "south": turn(2); break;
                    default: turn(3); break;
                }
            }
            int up = 0;
            for (int c : cells()) {
                Seed s = seeds.get(c);
                if (s == null || day - s.day < kinds.get(s.kind).soil) continue;
                seeds.remove(c);
                int gust = ask(true, s.kind, c, day - s.day);
                if (gust == 0) { note(3, c, s.kind); continue; }
                Storm old = storms.get(c);
                if (old == null) {
                    storms.put(c, new Storm(s.kind, gust, day + kinds.get(s.kind).lasts - 1));
                    note(2, c, s.kind);
                    up++;
                    continue;
                }
                int to = crossing(old.kind, s.kind);
                if (to != NONE) {
                    storms.put(c, new Storm(to, Math.min(9, Math.max(gust, old.gust) + 1), day + kinds.get(to).lasts - 1));
                    note(2, c, to);
                    up++;
                } else if (old.gust > gust) {
                    note(3, c, s.kind);
                } else {
                    storms.put(c, new Storm(s.kind, gust, day + kinds.get(s.kind).lasts - 1));
                    note(2, c, s.kind);
                    up++;
                }
            }
            int more = 0;
            for (int c : cells()) if (storms.containsKey(c)) more += ask(false, storms.get(c).kind, c, 0);
            harm += more;
            for (int c : cells()) {
                if (storms.containsKey(c)) {
                    int by = storms.get(c).gust / 3;
                    if (by < 1) by = 1;
                    wet.put(c, Math.min(9, wet(c) + by));
                } else if (day % 2 == 0) {
                    wet.put(c, Math.max(0, wet(c) - 1));
                }
            }
            return up;
        }

        /** (d), (e), (f). */
        void pass() {
            for (int c : cells()) {
                Storm s = storms.get(c);
                if (s == null || s.last > day) continue;
                storms.remove(c);
                note(4, c, s.kind);
                int x = c % 8, y = c / 8;
                for (int i = 0; i < kinds.get(s.kind).spread; i++) {
                    if (wind == 0) y--;
                    if (wind == 1) x++;
                    if (wind == 2) y++;
                    if (wind == 3) x--;
                    if (x < 0 || y < 0 || x >= w || y >= h) break;
                    int to = 8 * y + x;
                    if (hedges.contains(to)) break;
                    if (seeds.containsKey(to) || storms.containsKey(to)) continue;
                    seeds.put(to, new Seed(s.kind, day));
                    note(5, to, s.kind);
                }
            }
            if (!thinks && birds > 0 && !kinds.isEmpty() && draw(1000) < birds) {
                int c = cells().get(draw(w * h));
                int kind = draw(kinds.size());
                if (!seeds.containsKey(c) && !storms.containsKey(c) && !hedges.contains(c)) {
                    seeds.put(c, new Seed(kind, day));
                    note(6, c, kind);
                }
            }
            day++;
        }

        boolean met(Want want) {
            Storm s = storms.get(want.cell);
            return want.kind == NONE ? s == null : s != null && s.kind == want.kind;
        }
    }

    World world = new World();
    World image = null;
    ArrayList<World> undos = new ArrayList<>();
    StringBuilder tape = new StringBuilder();
    int fault = 0;
    int faultPlace = NONE;

    private void keep() {
        undos.add(world.twin());
        if (undos.size() > 6) undos.remove(0);
    }

    int state(int v) { int was = world.state; world.state = v; undos.clear(); return was; }

    boolean land(int w, int h) {
        if (w < 2 || w > 7 || h < 2 || h > 7) return false;
        int state = world.state;
        world = new World();
        world.w = w;
        world.h = h;
        world.state = state;
        undos.clear();
        return true;
    }

    boolean set(int what, int cell, int v) {
        if (what == 0) {
            if (v < 0 || v > 1000) return false;
            world.birds = v;
        } else if (what == 1) {
            if (!world.cell(cell) || v < 0 || v > 9) return false;
            world.wet.put(cell, v);
        } else if (what == 2) {
            if (!world.cell(cell) || v < 0 || v > 1 || world.seeds.containsKey(cell)) return false;
            if (v == 1) world.hedges.add(cell); else world.hedges.remove(cell);
        } else {
            return false;
        }
        undos.clear();
        return true;
    }

    int feed(int a, int b, int c, int d, int e) {
        if (tape.length() + 20 > 400) return NONE;
        for (int n : new int[] {a, b, c, d, e}) {
            for (int i = 3; i >= 0; i--) tape.append((char) (n >>> 8 * i & 255));
        }
        return tape.length();
    }

    boolean end(int n) {
        if (n < 0 || n > tape.length()) return false;
        tape.setLength(n);
        return true;
    }

    int text(int k) {
        String text = tape.toString();
        tape.setLength(0);
        fault = 0;
        faultPlace = NONE;
        if (k < 0 || k > 3) return NONE;
        try {
            return new Texts(text, world).tell(this, k);
        } catch (Fault f) {
            fault = f.what;
            faultPlace = f.place;
            return NONE;
        }
    }

    int fault(int what) { return what == 0 ? fault : what == 1 ? faultPlace : NONE; }

    boolean sow(int kind, int cell) {
        World before = world.twin();
        boolean did = world.sow(kind, cell);
        return remember(did, before);
    }

    boolean weed(int cell) {
        World before = world.twin();
        boolean did = world.weed(cell);
        return remember(did, before);
    }

    boolean turn(int wind) {
        World before = world.twin();
        boolean did = world.turn(wind);
        return remember(did, before);
    }

    private boolean remember(boolean did, World before) {
        if (did) {
            undos.add(before);
            if (undos.size() > 6) undos.remove(0);
        }
        return did;
    }

    int days(int n) {
        if (n < 1 || n > 60 || world.day + n > 999) return NONE;
        int up = 0;
        for (int i = 0; i < n; i++) {
            keep();
            up += world.blow();
            world.pass();
        }
        return up;
    }

    int at(int cell, int what) {
        if (!world.cell(cell) || what < 0 || what > 9) return NONE - 1;
        Seed seed = world.seeds.get(cell);
        Storm storm = world.storms.get(cell);
        return switch (what) {
            case 0 -> world.wet(cell);
            case 1 -> world.hedges.contains(cell) ? 1 : 0;
            case 2 -> seed == null ? NONE : seed.kind;
            case 3 -> seed == null ? NONE : seed.day;
            case 4 -> storm == null ? NONE : storm.kind;
            case 5 -> storm == null ? 0 : storm.gust;
            case 6 -> storm == null ? NONE : storm.last;
            case 7 -> (int) world.beside(cell).stream().filter(world.storms::containsKey).count();
            case 8 -> (int) world.beside(cell).stream().filter(world.hedges::contains).count();
            default -> storm == null ? 0 : world.ask(false, storm.kind, cell, 0);
        };
    }

    private boolean isKind(int i) { return i >= 0 && i < world.kinds.size(); }

    int kind(int i, int what) {
        if (!isKind(i)) return NONE;
        return switch (what) {
            case 0 -> world.kinds.get(i).soil;
            case 1 -> world.kinds.get(i).lasts;
            case 2 -> world.kinds.get(i).spread;
            case 3 -> (int) world.seeds.values().stream().filter(s -> s.kind == i).count();
            case 4 -> (int) world.storms.values().stream().filter(s -> s.kind == i).count();
            default -> NONE;
        };
    }

    int cross(int a, int b) { return isKind(a) && isKind(b) ? world.crossing(a, b) : NONE; }

    int gust(int kind, int cell, int n) {
        return isKind(kind) && world.cell(cell) && n >= 0 && n <= 99 ? world.ask(true, kind, cell, n) : NONE;
    }

    int book(int i, int what) {
        if (i < 0 || i >= world.book.size()) return NONE;
        Note n = world.book.get(i);
        return switch (what) { case 0 -> n.day; case 1 -> n.what; case 2 -> n.cell; case 3 -> n.kind; default -> NONE; };
    }

    private static long set(Iterable<Integer> cells) {
        long set = 0;
        for (int c : cells) set += 1L << c;
        return set;
    }

    long blows(int n) {
        if (n < 1 || n > 60) return NONE;
        World t = world.inThought();
        for (int i = 1; ; i++) {
            t.blow();
            if (i == n) return set(t.storms.keySet());
            t.pass();
        }
    }

    int harms(int n) {
        if (n < 1 || n > 60) return NONE;
        World t = world.inThought();
        for (int i = 1; i <= n; i++) { t.blow(); t.pass(); }
        return t.harm - world.harm;
    }

    int meets(int what) {
        if (what != 0 && what != 1) return NONE;
        World t = world.inThought();
        int worth = 0, first = NONE;
        for (; t.day <= 999; t.pass()) {
            t.blow();
            for (int i = 0; i < world.wants.size(); i++) {
                Want want = world.wants.get(i);
                if (want.day != t.day) continue;
                if (t.met(want)) worth += want.worth;
                else if (first == NONE) first = i;
            }
        }
        return what == 0 ? worth : first;
    }

    int sows(int want, int what) {
        if (want < 0 || want >= world.wants.size() || what < 0 || what > 2) return NONE;
        Want w = world.wants.get(want);
        if (w.day < world.day || w.day - world.day > 60) return NONE;
        int[] best = null;
        for (int kind = 0; kind < world.kinds.size(); kind++) {
            for (int cell : world.cells()) {
                World t = world.inThought();
                if (!t.sow(kind, cell)) continue;
                t.blow();
                while (t.day < w.day) { t.pass(); t.blow(); }
                int harm = t.harm - world.harm;
                if (t.met(w) && (best == null || harm < best[2])) best = new int[] {kind, cell, harm};
            }
        }
        return best == null ? NONE : best[what];
    }

    int gets(int kind, int from, int to) {
        if (!isKind(kind) || !world.cell(from) || !world.cell(to) || from == to) return NONE;
        World t = world.inThought();
        t.seeds.clear();
        t.storms.clear();
        t.plan = List.of();
        if (!t.sow(kind, from)) return NONE;
        for (int i = 1; i <= 99; i++) {
            t.blow();
            if (t.storms.containsKey(to)) return i;
            t.pass();
        }
        return NONE;
    }

    long weeds(long cells, int n, int what) {
        if ((cells & ~set(world.cells())) != 0 || n < 1 || n > 60 || what < 0 || what > 1) return NONE;
        if (world.seeds.size() > 10) return NONE;
        List<Integer> seeds = new ArrayList<>(world.seeds.keySet());
        long best = NONE;
        for (int m = 0; m < 1 << seeds.size(); m++) {
            if (best != NONE && Integer.bitCount(m) > Long.bitCount(best)) continue;
            World t = world.inThought();
            TreeSet<Integer> weeded = new TreeSet<>();
            for (int i = 0; i < seeds.size(); i++) if ((m >> i & 1) == 1) weeded.add(seeds.get(i));
            for (int c : weeded) t.weed(c);
            boolean calm = true;
            for (int i = 0; i < n && calm; i++) {
                t.blow();
                calm = (set(t.storms.keySet()) & cells) == 0;
                t.pass();
            }
            long s = set(weeded);
            if (calm && (best == NONE || Long.bitCount(s) < Long.bitCount(best)
                    || Long.bitCount(s) == Long.bitCount(best) && s < best)) best = s;
        }
        return best == NONE || what == 1 ? best : Long.bitCount(best);
    }

    int have(int kinds) {
        for (int i = 0; i < 32; i++) if ((kinds >>> i & 1) == 1 && !isKind(i)) return NONE;
        boolean grows = true;
        while (grows) {
            grows = false;
            for (Crossing c : world.crossings) {
                if ((kinds >> c.a & 1) == 1 && (kinds >> c.b & 1) == 1 && (kinds >> c.to & 1) == 0) {
                    kinds |= 1 << c.to;
                    grows = true;
                }
            }
        }
        return kinds;
    }

    int generations(int kinds, int kind) {
        if (have(kinds) == NONE || !isKind(kind)) return NONE;
        for (int i = 0; i <= 20; i++) {
            if ((kinds >> kind & 1) == 1) return i;
            int next = kinds;
            for (Crossing c : world.crossings) {
                if ((kinds >> c.a & 1) == 1 && (kinds >> c.b & 1) == 1) next |= 1 << c.to;
            }
            kinds = next;
        }
        return NONE;
    }

    int who(int cell, int v, int what) {
        if (!world.cell(cell) || v < 1 || v > 9 || what < 0 || what > 2) return NONE;
        List<int[]> couples = new ArrayList<>();
        for (int kind = 0; kind < world.kinds.size(); kind++) {
            for (int ago = 0; ago <= 30; ago++) {
                if (ago >= world.kinds.get(kind).soil && world.ask(true, kind, cell, ago) == v) couples.add(new int[] {kind, ago});
            }
        }
        if (what == 0) return couples.size();
        return couples.isEmpty() ? NONE : couples.get(0)[what - 1];
    }

    int calm(int cell, int n, int what) {
        if (!world.cell(cell) || n < 1 || n > 60 || what < 0 || what > 1) return NONE;
        World t = world.inThought();
        boolean[] calm = new boolean[n];
        for (int i = 0; i < n; i++) {
            t.blow();
            calm[i] = !t.storms.containsKey(cell);
            t.pass();
        }
        int best = 0, first = NONE;
        for (int i = 0; i < n; i++) {
            int j = i;
            while (j < n && calm[j]) j++;
            if (j - i > best) { best = j - i; first = world.day + i; }
        }
        return what == 0 ? best : first;
    }

    int good(int n, int p) {
        if (n < 0 || n > 60 || p < 0 || p > 1000) return NONE;
        int good = 1000000;
        for (int i = 0; i < n; i++) good = good * (1000 - p) / 1000;
        return good;
    }

    int open(int p, int g) {
        if (p < 0 || p > 1000 || g < 0 || g > 99) return NONE;
        int best = 0;
        for (int n = 1; n <= 60; n++) {
            if ((long) good(n, p) * (100 + g * n) / 100 > (long) good(best, p) * (100 + g * best) / 100) best = n;
        }
        return best;
    }

    int game(int what) {
        if (what < 0 || what > 1) return NONE;
        int[] rows = new int[world.h];
        for (int c : world.seeds.keySet()) rows[c / 8]++;
        for (int y = 0; y < rows.length; y++) {
            for (int left = 0; left < rows[y]; left++) {
                int rest = left;
                for (int other = 0; other < rows.length; other++) if (other != y) rest ^= rows[other];
                if (rest == 0) return what == 0 ? y : left;
            }
        }
        return NONE;
    }

    boolean undo() {
        if (undos.isEmpty()) return false;
        World back = undos.remove(undos.size() - 1);
        back.law = world.law;
        back.wants = world.wants;
        world = back;
        return true;
    }

    boolean image(boolean taken) {
        if (taken) { image = world.twin(); return true; }
        if (image == null) return false;
        world = image.twin();
        undos.clear();
        return true;
    }

    int look(int what) {
        return switch (what) {
            case 0 -> world.w;
            case 1 -> world.h;
            case 2 -> world.day;
            case 3 -> world.wind;
            case 4 -> world.birds;
            case 5 -> world.harm;
            case 6 -> world.kinds.size();
            case 7 -> world.crossings.size();
            case 8 -> world.seeds.size();
            case 9 -> world.storms.size();
            case 10 -> world.book.size();
            case 11 -> world.state;
            case 12 -> world.law.size();
            case 13 -> world.wants.size();
            case 14 -> world.plan.size();
            case 15 -> undos.size();
            default -> NONE - 999999;
        };
    }

    /** Reads a text by trying; a fault is thrown where it is. */
    static final class Texts {
        private final String text;
        private final World world;
        private int at = 0;

        Texts(String text, World world) {
            this.text = text;
            this.world = world;
            skip();
        }

        private void skip() {
            while (at < text.length() && (text.charAt(at) == 32 || text.charAt(at) == 10)) at++;
        }

        private int place() { return at; }

        private static boolean letter(char c) { return "abcdefghijklmnopqrstuvwxyz".indexOf(Character.toLowerCase(c)) >= 0 && c < 128; }

        private static boolean digit(char c) { return "0123456789".indexOf(c) >= 0; }

        /** The token that stands here; empty at the end. */
        private String token() {
            if (at >= text.length()) return "";
            int to = at;
            if (letter(text.charAt(at))) while (to < text.length() && letter(text.charAt(to))) to++;
            else if (digit(text.charAt(at))) while (to < text.length() && digit(text.charAt(to))) to++;
            else to++;
            return text.substring(at, to);
        }

        private boolean sees(String t) { return !token().isEmpty() && token().equals(t); }

        private boolean takes(String t) {
            if (!sees(t)) return false;
            at += t.length();
            skip();
            return true;
        }

        private void must(String t) { if (!takes(t)) throw new Fault(1, place()); }

        private int number(int least, int most) {
            String t = token();
            if (t.isEmpty() || !digit(t.charAt(0)) || t.length() > 4) throw new Fault(1, place());
            int n = Integer.parseInt(t);
            if (n < least || n > most) throw new Fault(2, place());
            takes(t);
            return n;
        }

        private int cell() {
            int before = at;
            int n = number(0, 9999);
            if (!world.cell(n)) throw new Fault(2, before);
            return n;
        }

        private boolean line(String word, int have, int most) {
            if (!sees(word)) return false;
            if (have == most) throw new Fault(3, place());
            return takes(word);
        }

        int tell(Model model, int k) {
            switch (k) {
                case 0: return kinds(model);
                case 1: return law();
                case 2: return wants();
                default: return plan(model);
            }
        }

        private int kinds(Model model) {
            List<Kind> kinds = new ArrayList<>();
            List<Crossing> crossings = new ArrayList<>();
            while (at < text.length()) {
                if (line("kind", kinds.size(), 8)) {
                    int soil = number(1, 20);
                    must("lasts");
                    int lasts = number(1, 9);
                    must("spread");
                    int spread = number(0, 6);
                    must(";");
                    kinds.add(new Kind(soil, lasts, spread));
                } else if (line("cross", crossings.size(), 10)) {
                    int a = number(0, kinds.size() - 1);
                    must("with");
                    int b = number(0, kinds.size() - 1);
                    must("to");
                    int to = number(0, kinds.size() - 1);
                    must(";");
                    crossings.add(new Crossing(a, b, to));
                } else {
                    throw new Fault(1, place());
                }
            }
            world.kinds = kinds;
            world.crossings = crossings;
            world.seeds.clear();
            world.storms.clear();
            world.wants = List.of();
            world.plan = List.of();
            model.undos.clear();
            return kinds.size() + crossings.size();
        }

        private int wants() {
            List<Want> wants = new ArrayList<>();
            while (at < text.length()) {
                if (!line("want", wants.size(), 10)) throw new Fault(1, place());
                int kind = takes("calm") ? NONE : number(0, world.kinds.size() - 1);
                must("at");
                int cell = cell();
                must("on");
                int day = number(0, 999);
                must("worth");
                int worth = number(1, 99);
                must(";");
                wants.add(new Want(kind, cell, day, worth));
            }
            world.wants = wants;
            return wants.size();
        }

        private int plan(Model model) {
            List<Deed> plan = new ArrayList<>();
            while (at < text.length()) {
                if (!line("on", plan.size(), 16)) throw new Fault(1, place());
                int day = number(0, 999);
                String what = token();
                int value = NONE, cell = NONE;
                if (takes("sow")) {
                    value = number(0, world.kinds.size() - 1);
                    must("at");
                    cell = cell();
                } else if (takes("weed")) {
                    cell = cell();
                } else if (!takes("north") && !takes("east") && !takes("south")) {
                    must("west");
                }
                must(";");
                plan.add(new Deed(day, what, value, cell));
            }
            world.plan = plan;
            model.undos.clear();
            return plan.size();
        }

        private int law() {
            List<LawLine> law = new ArrayList<>();
            while (at < text.length()) {
                boolean gust = line("gust", law.size(), 16);
                if (!gust && !line("harm", law.size(), 16)) throw new Fault(1, place());
                Sum sum = sum();
                Test when = takes("when") ? any(0) : null;
                must(";");
                law.add(new LawLine(gust, sum, when));
            }
            world.law = law;
            return law.size();
        }

        private Test any(int open) {
            Test left = all(open);
            while (takes("or")) {
                Test a = left, b = all(open);
                left = v -> a.of(v) || b.of(v);
            }
            return left;
        }

        private Test all(int open) {
            Test left = one(open);
            while (takes("and")) {
                Test a = left, b = one(open);
                left = v -> a.of(v) && b.of(v);
            }
            return left;
        }

        private Test one(int open) {
            if ((sees("not") || sees("(")) && open == 8) throw new Fault(3, place());
            if (takes("not")) {
                Test a = one(open + 1);
                return v -> !a.of(v);
            }
            if (takes("(")) {
                Test a = any(open + 1);
                must(")");
                return a;
            }
            Sum a = sum();
            String sign = token();
            if (!takes("<") && !takes("=")) must(">");
            Sum b = sum();
            return v -> sign.equals("<") ? a.of(v) < b.of(v) : sign.equals("=") ? a.of(v) == b.of(v) : a.of(v) > b.of(v);
        }

        private Sum sum() {
            Sum left = product();
            while (true) {
                Sum a = left;
                if (takes("+")) {
                    Sum b = product();
                    left = v -> a.of(v) + b.of(v);
                } else if (takes("-")) {
                    Sum b = product();
                    left = v -> a.of(v) - b.of(v);
                } else {
                    return left;
                }
            }
        }

        private Sum product() {
            Sum left = unit();
            while (true) {
                Sum a = left;
                if (takes("*")) {
                    Sum b = unit();
                    left = v -> a.of(v) * b.of(v);
                } else if (takes("/")) {
                    int b = number(1, 9999);
                    left = v -> a.of(v) / b;
                } else {
                    return left;
                }
            }
        }

        private Sum unit() {
            String[] words = {"kind", "wet", "soil", "beside", "day", "edge", "hedges", "storm"};
            for (int i = 0; i < words.length; i++) {
                int which = i;
                if (takes(words[i])) return v -> v[which];
            }
            int n = number(0, 9999);
            return v -> n;
        }
    }
}
