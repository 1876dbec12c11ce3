import java.io.IOException;
import java.lang.reflect.Constructor;
import java.lang.reflect.Field;
import java.lang.reflect.Method;
import java.lang.reflect.Modifier;
import java.nio.file.Files;
import java.nio.file.Path;
import java.util.ArrayList;
import java.util.List;
import java.util.TreeSet;

/**
 * The document from its first line to its last: src/test/document.txt has its words in their order, none left out,
 * and behind each sentence a run of calls with the answers that it asks.
 */
public final class DocumentTest {
    private static final Path DOCUMENT = Path.of("../shared/DOC.md");
    private static final Path WALK = Path.of("src/test/document.txt");

    private final Check check = new Check();
    private final String document;
    private int read;
    private StormSeeds x;
    private String sentence = "";
    private boolean isAsked = true;
    private int sentences;

    private DocumentTest(String document) {
        this.document = bare(document);
    }

    public static void main(String[] args) throws IOException {
        DocumentTest test = new DocumentTest(Files.readString(DOCUMENT));
        int line = 0;
        for (String text : Files.readAllLines(WALK)) {
            line++;
            test.follow(text.strip(), "line " + line);
        }
        test.end();
    }

    private static String bare(String text) {
        return text.replaceAll("\\s+", "");
    }

    private void follow(String line, String where) {
        if (line.isEmpty() || line.startsWith("#")) return;
        // "|" are words that ask nothing by themselves: headings, names, what is free.
        if (line.startsWith("|")) pass(line.substring(1));
        else if (line.startsWith(">>")) begin(line.substring(2), true);
        else if (line.startsWith(">")) begin(line.substring(1), false);
        else if (line.equals("face")) face();
        else if (line.matches("[0-9]+ times.*")) askAgain(line, where);
        else ask(line, where);
    }

    private void begin(String words, boolean isOfTheSame) {
        if (isAsked) {
            sentence = "";
            sentences++;
            if (!isOfTheSame) x = null;
        }
        isAsked = false;
        sentence = (sentence + " " + words.strip()).strip();
        quote(words);
    }

    private void pass(String words) {
        check.yes("\"" + sentence + "\" is asked", isAsked);
        quote(words);
    }

    private void quote(String words) {
        boolean isNext = document.startsWith(bare(words), read);
        check.yes("the document goes on with \"" + words.strip() + "\"", isNext);
        if (isNext) {
            read += bare(words).length();
        } else {
            System.out.println("it goes on with " + document.substring(read, Math.min(document.length(), read + 80)));
            System.exit(1);
        }
    }

    private void end() {
        check.due("signs of the document that are left over", document.length() - read, 0);
        check.yes("the last sentence is asked", isAsked);
        System.out.println(sentences + " sentences from the first line to the last");
        check.end();
    }

    /** "call a b = due", "text k \"..\" = due", "fault f p" (behind a text), "new". */
    private void ask(String line, String where) {
        if (line.equals("new")) {
            x = new StormSeeds();
            return;
        }
        if (x == null) x = new StormSeeds();
        isAsked = true;
        String call = line;
        String name = where + ", \"" + sentence + "\": ";
        int split = line.lastIndexOf('=');
        if (line.startsWith("fault ") && split < 0) {
            String[] words = line.split(" ");
            check.due(name + "fault(0)", x.fault(0), number(words[1]));
            check.due(name + "fault(1)", x.fault(1), number(words[2]));
            return;
        }
        long due = number(line.substring(split + 1).strip());
        call = line.substring(0, split).strip();
        if (call.contains("\"")) {
            int first = call.indexOf('"');
            Check.put(x, unescaped(call.substring(first + 1, call.lastIndexOf('"'))));
            call = call.substring(0, first).strip();
        }
        check.due(name + call, answer(call.split(" +")), due);
    }

    /** "7 times call = due" or "7 times: call = due; call = due". */
    private void askAgain(String line, String where) {
        int times = Integer.parseInt(line.substring(0, line.indexOf(' ')));
        String calls = line.substring(line.indexOf(" times") + 6);
        String[] each = calls.startsWith(":") ? calls.substring(1).split("; ") : new String[] {calls};
        for (int i = 0; i < times; i++) {
            for (String call : each) ask(call.strip(), where);
        }
    }

    private static String unescaped(String text) {
        StringBuilder s = new StringBuilder();
        for (int i = 0; i < text.length(); i++) {
            if (text.startsWith("\\x", i)) {
                s.append((char) Integer.parseInt(text.substring(i + 2, i + 4), 16));
                i += 3;
            } else {
                s.append(text.charAt(i));
            }
        }
        return s.toString();
    }

    /** A number, yes or no, NONE, or a set as {1,9}. */
    private static long number(String word) {
        switch (word) {
            case "yes": return 1;
            case "no": return 0;
            case "NONE": return -1;
            default: break;
        }
        if (!word.startsWith("{")) return Long.parseLong(word);
        long set = 0;
        String inside = word.substring(1, word.length() - 1);
        if (!inside.isEmpty()) for (String c : inside.split(",")) set += 1L << Integer.parseInt(c);
        return set;
    }

    private long answer(String[] words) {
        for (Method m : StormSeeds.class.getMethods()) {
            if (m.getDeclaringClass() != StormSeeds.class || !m.getName().equals(words[0])) continue;
            Class<?>[] types = m.getParameterTypes();
            if (types.length != words.length - 1) continue;
            Object[] numbers = new Object[types.length];
            for (int i = 0; i < types.length; i++) {
                long n = number(words[i + 1]);
                numbers[i] = types[i] == boolean.class ? (Object) (n == 1) : types[i] == int.class ? (Object) (int) n : (Object) n;
            }
            try {
                Object answer = m.invoke(x, numbers);
                return answer instanceof Boolean b ? (b ? 1 : 0) : ((Number) answer).longValue();
            } catch (ReflectiveOperationException e) {
                throw new IllegalStateException(String.join(" ", words), e);
            }
        }
        throw new IllegalArgumentException("no such call: " + String.join(" ", words));
    }

    /** What the class shows is what stands in the document's face, no more and no less. */
    private void face() {
        isAsked = true;
        int from = document.indexOf("publicfinalclassStormSeeds{");
        String block = document.substring(from + "publicfinalclassStormSeeds{".length(), document.indexOf("```", from));
        TreeSet<String> told = new TreeSet<>();
        for (String member : block.split(";")) if (!member.equals("}")) told.add(member.replaceAll("(?<=[(,](int|long|boolean))[a-z]+", ""));
        TreeSet<String> shown = new TreeSet<>();
        for (Method m : StormSeeds.class.getDeclaredMethods()) if (!Modifier.isPrivate(m.getModifiers())) shown.add(signature(m));
        for (Constructor<?> c : StormSeeds.class.getDeclaredConstructors()) if (!Modifier.isPrivate(c.getModifiers())) shown.add(Modifier.toString(c.getModifiers()) + c.getName() + types(c.getParameterTypes()));
        for (Field f : StormSeeds.class.getDeclaredFields()) if (!Modifier.isPrivate(f.getModifiers())) shown.add(bare(Modifier.toString(f.getModifiers())) + f.getType() + f.getName() + "=" + value(f));
        check.yes("the face is " + told + ", the class shows " + shown, told.equals(shown));
        check.yes("the class is public and final", StormSeeds.class.getModifiers() == (Modifier.PUBLIC | Modifier.FINAL));
    }

    private static String signature(Method m) {
        return bare(Modifier.toString(m.getModifiers())) + m.getReturnType() + m.getName() + types(m.getParameterTypes());
    }

    private static String types(Class<?>[] types) {
        List<String> names = new ArrayList<>();
        for (Class<?> type : types) names.add(type.getName());
        return "(" + String.join(",", names) + ")";
    }

    private static Object value(Field f) {
        try {
            return f.get(null);
        } catch (IllegalAccessException e) {
            throw new IllegalStateException(e);
        }
    }
}
