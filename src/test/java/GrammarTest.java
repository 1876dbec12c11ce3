import java.nio.charset.StandardCharsets;
import java.util.ArrayList;
import java.util.List;
import java.util.Random;
import java.util.TreeSet;

/**
 * The four texts by their grammar as the document writes it, tried in every way at once, and their faults by a
 * walk over the tokens: no reader that looks ahead has a part in it, so it can't share the class's mistakes.
 */
public final class GrammarTest {
    private static final int TEXTS = 12000;
    private static final String[] WORDS = {"kind", "lasts", "spread", "cross", "with", "to", "gust", "harm", "when",
        "and", "or", "not", "wet", "soil", "beside", "day", "edge", "hedges", "storm", "want", "calm", "at", "on",
        "worth", "sow", "weed", "north", "east", "south", "west"};
    private static final String SIGNS = ";+-*/()<=>";
    private static final int W = 4;
    private static final int H = 3;
    private static final int KINDS = 3;

    private record Token(String text, int place) { }

    /** A part of the grammar: from where it begins, all places where it may end. */
    private interface Part { TreeSet<Integer> ends(List<Token> tokens, int from); }

    /** How far a token was asked for; what stands there can't, if no way goes through. */
    private int farthest;

    private final Part[] texts = new Part[4];
    private Part condition;
    private Part comparison;

    private GrammarTest() {
        Part number = (tokens, from) -> one(tokens, from, isNumber(at(tokens, from)));
        // 0 KINDS = {kind SOIL lasts N spread N ; | cross KIND with KIND to KIND ;}
        texts[0] = many(either(row(word("kind"), number, word("lasts"), number, word("spread"), number, word(";")),
                row(word("cross"), number, word("with"), number, word("to"), number, word(";"))));
        // U = NUMBER | kind | wet | soil | beside | day | edge | hedges | storm.
        Part unit = either(number, word("kind"), word("wet"), word("soil"), word("beside"), word("day"), word("edge"),
                word("hedges"), word("storm"));
        // T = U {* U | / NUMBER}.  E = T {(+ | -) T}.
        Part product = row(unit, many(either(row(word("*"), unit), row(word("/"), number))));
        Part sum = row(product, many(row(either(word("+"), word("-")), product)));
        // C = E (< | = | >) E | not C | ( B ).  A = C {and C}.  B = A {or A}.
        comparison = either(row(sum, either(word("<"), word("="), word(">")), sum),
                row(word("not"), (tokens, from) -> comparison.ends(tokens, from)),
                row(word("("), (tokens, from) -> condition.ends(tokens, from), word(")")));
        Part all = row(comparison, many(row(word("and"), comparison)));
        condition = row(all, many(row(word("or"), all)));
        // 1 THE LAW = {(gust | harm) E [when B] ;}.
        texts[1] = many(row(either(word("gust"), word("harm")), sum, either(row(word("when"), condition), row()), word(";")));
        // 2 WANTS = {want (KIND | calm) at CELL on DAY worth N ;}
        texts[2] = many(row(word("want"), either(number, word("calm")), word("at"), number, word("on"), number,
                word("worth"), number, word(";")));
        // 3 A PLAN = {on DAY (sow KIND at CELL | weed CELL | north | east | south | west) ;}
        texts[3] = many(row(word("on"), number, either(row(word("sow"), number, word("at"), number),
                row(word("weed"), number), word("north"), word("east"), word("south"), word("west")), word(";")));
    }

    private static String at(List<Token> tokens, int i) { return i < tokens.size() ? tokens.get(i).text : ""; }

    private static boolean isNumber(String token) { return token.matches("[0-9]{1,4}"); }

    private TreeSet<Integer> one(List<Token> tokens, int from, boolean fits) {
        farthest = Math.max(farthest, from);
        TreeSet<Integer> ends = new TreeSet<>();
        if (fits) ends.add(from + 1);
        return ends;
    }

    private Part word(String word) { return (tokens, from) -> one(tokens, from, at(tokens, from).equals(word)); }

    private static Part either(Part... parts) {
        return (tokens, from) -> {
            TreeSet<Integer> ends = new TreeSet<>();
            for (Part part : parts) ends.addAll(part.ends(tokens, from));
            return ends;
        };
    }

    private static Part row(Part... parts) {
        return (tokens, from) -> {
            TreeSet<Integer> ends = new TreeSet<>(List.of(from));
            for (Part part : parts) {
                TreeSet<Integer> next = new TreeSet<>();
                for (int end : ends) next.addAll(part.ends(tokens, end));
                ends = next;
            }
            return ends;
        };
    }

    private static Part many(Part part) {
        return (tokens, from) -> {
            TreeSet<Integer> ends = new TreeSet<>(List.of(from));
            TreeSet<Integer> newest = ends;
            while (!newest.isEmpty()) {
                TreeSet<Integer> next = new TreeSet<>();
                for (int end : newest) next.addAll(part.ends(tokens, end));
                next.removeAll(ends);
                ends = new TreeSet<>(ends);
                ends.addAll(next);
                newest = next;
            }
            return ends;
        };
    }

    private static List<Token> tokens(String text) {
        List<Token> tokens = new ArrayList<>();
        java.util.regex.Matcher m = java.util.regex.Pattern.compile("[a-zA-Z]+|[0-9]+|[^ \n]", java.util.regex.Pattern.DOTALL).matcher(text);
        while (m.find()) tokens.add(new Token(m.group(), m.start()));
        return tokens;
    }

    /** The first token that can't stand where it is; -1 if the whole text can be. */
    private int firstMisplaced(int k, List<Token> tokens) {
        farthest = 0;
        TreeSet<Integer> ends = texts[k].ends(tokens, 0);
        if (ends.contains(tokens.size())) return -1;
        // A text may end behind each of its lines, so behind the last of them a token was asked for, too.
        return Math.max(farthest, ends.last());
    }

    private static boolean isWithin(String number, int least, int most) {
        int n = Integer.parseInt(number);
        return n >= least && n <= most;
    }

    private static boolean isCell(String number) {
        int n = Integer.parseInt(number);
        return n % 8 < W && n / 8 < H;
    }

    /** What is wrong with a number, told by the word ahead of it. */
    private static boolean isBeyond(int k, String ahead, String number, int kindsAhead) {
        int kinds = k == 0 ? kindsAhead : KINDS;
        switch (ahead) {
            case "kind": return k == 0 && !isWithin(number, 1, 20);
            case "lasts": return !isWithin(number, 1, 9);
            case "spread": return !isWithin(number, 0, 6);
            case "cross": case "with": case "to": case "sow": return !isWithin(number, 0, kinds - 1);
            case "want": return !isWithin(number, 0, kinds - 1);
            case "at": case "weed": return !isCell(number);
            case "on": return !isWithin(number, 0, 999);
            case "worth": return !isWithin(number, 1, 99);
            case "/": return isWithin(number, 0, 0);
            default: return false;
        }
    }

    /** The first of the tokens ahead of a bound that is one too many or beyond, as {fault, token}; null if none. */
    private static int[] firstTooFar(int k, List<Token> tokens, int bound) {
        int kinds = 0, crossings = 0, lines = 0;
        StringBuilder open = new StringBuilder();
        for (int i = 0; i < bound; i++) {
            String t = tokens.get(i).text;
            if (isNumber(t) && i > 0 && isBeyond(k, tokens.get(i - 1).text, t, kinds)) return new int[] {2, i};
            if (k == 0 && t.equals("kind") && ++kinds == 9) return new int[] {3, i};
            if (k == 0 && t.equals("cross") && ++crossings == 11) return new int[] {3, i};
            if (k == 1 && (t.equals("gust") || t.equals("harm")) && ++lines == 17) return new int[] {3, i};
            if (k == 2 && t.equals("want") && ++lines == 11) return new int[] {3, i};
            if (k == 3 && t.equals("on") && ++lines == 17) return new int[] {3, i};
            if (k != 1) continue;
            if (t.equals("(") || t.equals("not")) {
                open.append(t.charAt(0));
                if (open.length() == 9) return new int[] {3, i};
            }
            if (t.equals("and") || t.equals("or") || t.equals(")") || t.equals(";")) {
                // A comparison is over, and each not that waits for it.
                while (open.length() > 0 && open.charAt(open.length() - 1) == 'n') open.setLength(open.length() - 1);
                if (t.equals(")") && open.length() > 0) open.setLength(open.length() - 1);
            }
        }
        return null;
    }

    /** {lines, 0, NONE}, or {NONE, fault, place}. */
    private int[] due(int k, String text) {
        List<Token> tokens = tokens(text);
        int misplaced = firstMisplaced(k, tokens);
        int[] tooFar = firstTooFar(k, tokens, misplaced < 0 ? tokens.size() : misplaced);
        if (tooFar != null) return new int[] {StormSeeds.NONE, tooFar[0], tokens.get(tooFar[1]).place};
        if (misplaced >= 0) {
            int place = misplaced < tokens.size() ? tokens.get(misplaced).place : text.length();
            return new int[] {StormSeeds.NONE, 1, place};
        }
        int lines = 0;
        for (Token t : tokens) if (t.text.equals(";")) lines++;
        return new int[] {lines, 0, StormSeeds.NONE};
    }

    private static String pick(Random random, String... of) { return of[random.nextInt(of.length)]; }

    private static String number(Random random) {
        return pick(random, "0", "1", "2", "3", "4", "7", "9", "10", "18", "20", "21", "99", "100", "999", "1000", "007", "9999", "10000", "00001");
    }

    /** A text that goes on as it may, most of the time. */
    private String grown(int k, Random random) {
        StringBuilder text = new StringBuilder();
        int most = 3 + random.nextInt(110);
        boolean isWild = random.nextInt(3) == 0;
        for (int i = 0; i < most; i++) {
            List<String> next = new ArrayList<>();
            for (int j = 0; j < 14; j++) next.add(pick(random, choices(k)));
            String token = next.get(0);
            for (String t : next) {
                String tried = text + " " + t + " ";
                if (!isWild || random.nextInt(40) != 0) {
                    List<Token> tokens = tokens(tried);
                    int misplaced = firstMisplaced(k, tokens);
                    if (misplaced >= 0 && misplaced < tokens.size() || random.nextInt(12) != 0 && firstTooFar(k, tokens, tokens.size()) != null) continue;
                }
                token = t;
                break;
            }
            if (text.length() + token.length() > 390) break;
            text.append(pick(random, "", " ", "\n", " ")).append(token);
            List<Token> tokens = tokens(text.toString());
            if (firstMisplaced(k, tokens) >= 0 && firstMisplaced(k, tokens) < tokens.size() && random.nextInt(3) == 0) break;
        }
        return text.toString();
    }

    private static String[] choices(int k) {
        switch (k) {
            case 0: return "kind|lasts|spread|cross|with|to|;|1|2|3|0|6|9|20|kind|cross|;|1|0|1|2|7|21|10".split("[|]");
            case 1: return "gust|harm|when|and|or|not|(|)|<|=|>|+|-|*|/|;|kind|wet|soil|day|1|0|9999|storm|edge|beside|hedges|;|not|(|(|<|>|and|or|)".split("[|]");
            case 2: return "want|calm|at|on|worth|;|0|1|2|3|10|18|99|100|999|1000".split("[|]");
            default: return "on|sow|weed|at|north|east|south|west|;|0|1|2|3|10|19|999|1000".split("[|]");
        }
    }

    /** Tokens of every sort in any order. */
    private static String strewn(Random random) {
        StringBuilder text = new StringBuilder();
        for (int i = random.nextInt(6); i >= 0; i--) {
            text.append(pick(random, "", " ", "\n"));
            switch (random.nextInt(5)) {
                case 0: text.append(SIGNS.charAt(random.nextInt(SIGNS.length()))); break;
                case 1: text.append(number(random)); break;
                case 2: text.append((char) random.nextInt(256)); break;
                default: text.append(pick(random, WORDS)); break;
            }
        }
        return text.toString();
    }

    /** A line of its text over and over, up to where there are too many of them. */
    private static String full(int k, Random random) {
        String[][] lines = {{"kind1lasts1spread0;", "cross0with0to0;"}, {"gust 1;", "harm 2;"},
            {"want 0 at 1 on 2 worth 3;", "want calm at 1 on 2 worth 3;"}, {"on 1 west;", "on 2 weed 3;"}};
        StringBuilder text = new StringBuilder(k == 0 ? lines[0][0] : "");
        for (int i = 8 + random.nextInt(11); i >= 0; i--) {
            String line = lines[k][random.nextInt(2)];
            if (text.length() + line.length() <= 390) text.append(line);
        }
        return text.toString();
    }

    private static StormSeeds ready() {
        StormSeeds x = new StormSeeds();
        x.land(W, H);
        Check.put(x, "kind 1 lasts 2 spread 3;kind 2 lasts 1 spread 2;kind 3 lasts 1 spread 1;");
        x.text(0);
        return x;
    }

    public static void main(String[] args) {
        int texts = args.length > 0 ? Integer.parseInt(args[0]) : TEXTS;
        GrammarTest grammar = new GrammarTest();
        Check check = new Check();
        Random random = new Random(20261119);
        int[] seen = new int[4];
        for (int i = 0; i < texts; i++) {
            int k = random.nextInt(4);
            int form = random.nextInt(10);
            String text = form < 6 ? grammar.grown(k, random) : form < 9 ? strewn(random) : full(k, random);
            int[] due = grammar.due(k, text);
            seen[due[1]]++;
            StormSeeds x = ready();
            Check.put(x, text);
            check.due("text(" + k + ") of \"" + text + "\"", x.text(k), due[0]);
            check.due("fault(0) of text " + k + " \"" + text + "\"", x.fault(0), due[1]);
            check.due("fault(1) of text " + k + " \"" + text + "\"", x.fault(1), due[2]);
        }
        for (int i = 0; i < 4; i++) check.yes("texts with the fault " + i + " (0 none) among them, at least 30: " + seen[i], seen[i] >= 30);
        System.out.println(seen[0] + " texts without a fault, " + seen[1] + ", " + seen[2] + ", " + seen[3] + " with the faults 1, 2, 3");
        check.end();
    }
}
