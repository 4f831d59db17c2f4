import java.lang.reflect.Field;
import java.lang.reflect.Method;
import java.lang.reflect.Modifier;
import java.nio.file.Files;
import java.nio.file.Path;
import java.util.ArrayList;
import java.util.List;
import java.util.regex.Matcher;
import java.util.regex.Pattern;

/** The rules of ../shared/LANGUAGE.md that a program can look at. It reads the source, from the project's root. */
public final class LanguageTest {
    private static final Path SOURCE = Path.of("src/main/java/BlockCache.java");
    /** What rules 2, 4, 6 and 13 leave out, as it would stand in the source. */
    private static final String[] LEFT_OUT = {
        "->", "::", "\\btry\\b", "\\bcatch\\b", "\\bfinally\\b", "\\bsynchronized\\b", "\\bassert\\b",
        "\\bstatic \\{", "\\bSystem\\.(?!arraycopy)", "\\bThread\\b", "\\bRandom\\b", "Exact\\(", "\\bpackage\\b",
        "\\btoString\\b", "\\bhashCode\\b", "\\bequals\\b", "\\bInteger\\b", "\\bObject\\b", "\\bvar\\b",
    };

    public static void main(String[] args) throws Exception {
        List<String> lines = withoutComments(Files.readAllLines(SOURCE));
        noneOfWhatIsLeftOut(lines);
        onlyTheListedLibrary(lines);
        shortMethods(lines);
        List<Class<?>> classes = new ArrayList<>(List.of(BlockCache.class.getDeclaredClasses()));
        classes.add(BlockCache.class);
        Check.same("at most twelve classes", classes.size() <= 12 ? 1 : 0, 1);
        for (Class<?> c : classes) {
            fewPlainFields(c);
            fewParameters(c);
        }
        noPrivateMethodHasANameOfTheFace();
        noCallThrowsByItselfWhenCountsGoRound();
        Check.finish();
    }

    private static List<String> withoutComments(List<String> lines) {
        List<String> code = new ArrayList<>();
        for (String line : lines) {
            String trimmed = line.trim();
            boolean comment = trimmed.startsWith("//") || trimmed.startsWith("/*") || trimmed.startsWith("*");
            code.add(comment ? "" : line);
        }
        return code;
    }

    private static void noneOfWhatIsLeftOut(List<String> lines) {
        for (String word : LEFT_OUT) {
            Pattern pattern = Pattern.compile(word);
            for (int i = 0; i < lines.size(); i++) {
                Check.same("line " + (i + 1) + " has " + word, pattern.matcher(lines.get(i)).find() ? 1 : 0, 0);
            }
        }
    }

    private static void onlyTheListedLibrary(List<String> lines) {
        for (String line : lines) {
            if (line.startsWith("import ")) {
                Check.sameText("an import", line, "import java.util.Arrays;");
            }
            if (line.contains("throw ")) {
                boolean plain = line.matches(".*throw new Illegal(Argument|State)Exception\\(\\);");
                Check.same("rule 6: " + line.trim(), plain ? 1 : 0, 1);
            }
        }
    }

    /** Rule 11: a method ends where its own indentation comes again. */
    private static void shortMethods(List<String> lines) {
        Pattern head = Pattern.compile("( +)[\\w\\[\\] ]*\\w\\([^;]*\\)[^;]*\\{");
        int methods = 0;
        for (int i = 0; i < lines.size(); i++) {
            Matcher m = head.matcher(lines.get(i));
            boolean control = lines.get(i).matches(" +(if|for|while|switch|\\}).*");
            if (!m.matches() || control) {
                continue;
            }
            methods++;
            int end = i;
            while (!lines.get(end).equals(m.group(1) + "}")) {
                end++;
            }
            Check.same("sixty lines at most: " + lines.get(i).trim(), end - i < 60 ? 1 : 0, 1);
        }
        Check.same("methods were seen", methods > 50 ? 1 : 0, 1);
    }

    private static void fewPlainFields(Class<?> c) {
        int many = 0;
        for (Field f : c.getDeclaredFields()) {
            if (Modifier.isStatic(f.getModifiers())) {
                Check.same("rule 5: " + f, Modifier.isFinal(f.getModifiers()) && f.getType() == int.class ? 1 : 0, 1);
                continue;
            }
            many++;
            boolean plain = f.getType() == int.class || f.getType() == int[].class
                || f.getType().getEnclosingClass() == BlockCache.class;
            Check.same("rule 3: " + f, plain ? 1 : 0, 1);
        }
        Check.same("twenty fields at most: " + c, many <= 20 ? 1 : 0, 1);
    }

    private static void fewParameters(Class<?> c) {
        for (Method m : c.getDeclaredMethods()) {
            Check.same("seven parameters at most: " + m, m.getParameterCount() <= 7 ? 1 : 0, 1);
        }
    }

    private static void noPrivateMethodHasANameOfTheFace() {
        for (Method m : BlockCache.class.getDeclaredMethods()) {
            for (Method other : BlockCache.class.getMethods()) {
                boolean both = Modifier.isPrivate(m.getModifiers()) && m.getName().equals(other.getName());
                Check.same("rule 1: " + m, both ? 1 : 0, 0);
            }
        }
    }

    /**
     * Rule 7 says "in any state". No object comes so far in 512 calls, so the counts are put there by
     * reflection.
     */
    private static void noCallThrowsByItselfWhenCountsGoRound() throws Exception {
        // OUT; PUSH A; JMP 0, with an interrupt between: OUT; EI; RET.
        BlockCache x = Check.with(0x01, 0xE0, 0xC0, 0x00);
        Check.load(x, 240, 0x01, 0x03, 0xD1);
        x.set(8, 1);
        x.set(4, 128);
        x.request(Integer.MAX_VALUE);
        putAllCounts(x, Integer.MAX_VALUE - 4);
        int thrown = 0;
        try {
            for (int i = 0; i < 20; i++) {
                x.run(7);
                x.output(i);
            }
        } catch (RuntimeException e) {
            thrown = 1;
        }
        Check.same("a call throws by itself", thrown, 0);
    }

    private static void putAllCounts(BlockCache x, int value) throws Exception {
        put(x, value, "executed", "invalidated", "lookups", "interpreted", "interrupts");
        put(part(x, "guest"), value, "given");
        put(part(x, "cache"), value, "translated", "flushes", "deadFlags");
    }

    private static Object part(BlockCache x, String name) throws Exception {
        Field f = BlockCache.class.getDeclaredField(name);
        f.setAccessible(true);
        return f.get(x);
    }

    private static void put(Object of, int value, String... names) throws Exception {
        for (String name : names) {
            Field f = of.getClass().getDeclaredField(name);
            f.setAccessible(true);
            f.setInt(of, value);
        }
    }
}
