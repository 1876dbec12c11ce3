import java.io.IOException;
import java.lang.reflect.Constructor;
import java.lang.reflect.Field;
import java.lang.reflect.Member;
import java.lang.reflect.Method;
import java.lang.reflect.Modifier;
import java.nio.file.Files;
import java.nio.file.Path;
import java.util.ArrayList;
import java.util.List;
import java.util.Set;
import java.util.TreeSet;
import java.util.regex.Matcher;
import java.util.regex.Pattern;

/** What can be seen from outside of the rules in ../shared/LANGUAGE.md. */
public final class LanguageTest {
    private static final Check CHECK = new Check();
    private static final String FACE = "state(I) land(II) set(III) feed(IIIII) end(I) text(I) fault(I) sow(II) weed(I) turn(I)"
            + " days(I) at(II) kind(II) cross(II) gust(III) book(II) blows(I) harms(I) meets(I) sows(II) gets(III) weeds(JII)"
            + " have(I) generations(II) who(III) calm(III) good(II) open(II) game(I) undo() image(Z) look(I)";

    public static void main(String[] args) throws IOException {
        face();
        List<Class<?>> classes = new ArrayList<>(List.of(StormSeeds.class.getDeclaredClasses()));
        classes.add(StormSeeds.class);
        CHECK.due("rule 11: some twelve classes", classes.size() <= 12 ? 1 : 0, 1);
        for (Class<?> c : classes) {
            shape(c);
        }
        words(Files.readString(Path.of("src/main/java/StormSeeds.java")));
        CHECK.end();
    }

    private static void face() {
        Set<String> seen = new TreeSet<>();
        for (Method m : StormSeeds.class.getDeclaredMethods()) {
            if (!Modifier.isPrivate(m.getModifiers())) {
                StringBuilder s = new StringBuilder(m.getName()).append("(");
                for (Class<?> p : m.getParameterTypes()) {
                    s.append(p.descriptorString());
                }
                seen.add(s.append(")").toString());
            }
        }
        Set<String> due = new TreeSet<>(List.of(FACE.split(" ")));
        CHECK.due("rule 1: the face " + seen, seen.equals(due) ? 1 : 0, 1);
        for (Field f : StormSeeds.class.getDeclaredFields()) {
            boolean isOpen = !Modifier.isPrivate(f.getModifiers());
            CHECK.due("rule 1: field " + f.getName(), isOpen ? 1 : 0, f.getName().equals("NONE") ? 1 : 0);
        }
        for (Constructor<?> c : StormSeeds.class.getDeclaredConstructors()) {
            CHECK.due("rule 1: the constructor's parameters", c.getParameterCount(), 0);
        }
        CHECK.due("rule 1: public and final", StormSeeds.class.getModifiers() & (Modifier.PUBLIC | Modifier.FINAL), Modifier.PUBLIC | Modifier.FINAL);
    }

    private static void shape(Class<?> c) {
        int fields = 0;
        for (Field f : c.getDeclaredFields()) {
            if (Modifier.isStatic(f.getModifiers())) {
                CHECK.due("rule 5: " + f + " is final", Modifier.isFinal(f.getModifiers()) ? 1 : 0, 1);
                CHECK.due("rule 5: " + f + " is a constant", f.getType() == int.class || f.getType() == String.class ? 1 : 0, 1);
            } else {
                fields++;
            }
        }
        CHECK.due("rule 11: fields of " + c, fields <= 20 ? 1 : 0, 1);
        if (c != StormSeeds.class) {
            CHECK.due("rule 2: " + c + " is static", Modifier.isStatic(c.getModifiers()) ? 1 : 0, 1);
        }
        List<Member> members = new ArrayList<>(List.of(c.getDeclaredMethods()));
        for (Member m : members) {
            CHECK.due("rule 11: parameters of " + m, ((Method) m).getParameterCount() <= 7 ? 1 : 0, 1);
            boolean isFace = Modifier.isPublic(m.getModifiers());
            CHECK.due("rule 1: " + m + " bears no public one's name", !isFace && FACE.matches("(.* )?" + Pattern.quote(m.getName()) + "\\(.*") ? 1 : 0, 0);
            CHECK.due("rule 2: no lambda " + m, m.isSynthetic() ? 1 : 0, 0);
        }
    }

    private static void words(String source) {
        String code = source.replaceAll("(?s)/\\*.*?\\*/", " ").replaceAll("//[^\n]*", " ")
                .replaceAll("\"(\\\\.|[^\"\\\\])*\"", "\"\"").replaceAll("'(\\\\.|[^'\\\\])'", "' '");
        for (String word : List.of("throw", "throws", "try", "catch", "synchronized", "assert", "goto", "package", "native", "volatile",
                "transient", "record", "Object", "equals", "hashCode", "toString", "System\\.out", "random", "nanoTime", "currentTimeMillis", "Exception")) {
            Matcher m = Pattern.compile("\\b" + word + "\\b").matcher(code);
            CHECK.due("rule 6: the word " + word, m.find() ? 1 : 0, 0);
        }
        CHECK.due("rule 2: no arrow", code.contains("->") ? 1 : 0, 0);
        CHECK.due("rule 2: no method reference", code.contains("::") ? 1 : 0, 0);
        CHECK.due("rule 10: no text joined by +", code.contains("\"\" +") || code.contains("+ \"\"") ? 1 : 0, 0);
        Set<String> calls = new TreeSet<>();
        Matcher m = Pattern.compile("\\b(Math|Arrays|System|Integer|Long|List|String)\\.(\\w+)").matcher(code);
        while (m.find()) {
            calls.add(m.group());
        }
        calls.removeAll(Set.of("Math.min", "Math.max", "Arrays.fill", "System.arraycopy", "Integer.bitCount", "Long.bitCount"));
        CHECK.due("rule 4: the library " + calls, calls.size(), 0);
        m = Pattern.compile("\\bimport ([\\w.]+);").matcher(code);
        while (m.find()) {
            CHECK.due("rule 4: import " + m.group(1), m.group(1).equals("java.util.Arrays") ? 1 : 0, 1);
        }
        for (int i = 0; i < source.length(); i++) {
            if (source.charAt(i) > 126) {
                CHECK.due("rule 4: a sign beyond 127 at " + i, source.charAt(i), 0);
            }
        }
        methodsAreShort(source);
    }

    private static void methodsAreShort(String source) {
        String[] lines = source.split("\n");
        for (int i = 0; i < lines.length; i++) {
            Matcher m = Pattern.compile("^( {4}| {8})(public|private)[^;=]*\\([^;=]*\\) \\{$").matcher(lines[i]);
            if (!m.matches()) {
                continue;
            }
            int end = i;
            while (end < lines.length && !lines[end].equals(m.group(1) + "}")) {
                end++;
            }
            CHECK.due("rule 11: lines of" + lines[i], end - i <= 60 ? 1 : 0, 1);
        }
    }
}
