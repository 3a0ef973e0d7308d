import java.io.IOException;
import java.nio.file.Files;
import java.nio.file.Path;
import java.util.List;
import java.util.regex.Matcher;
import java.util.regex.Pattern;

/** Some of the rules of LANGUAGE.md, looked for roughly in the program's text; run from the project's directory. */
public final class LanguageTest {
    private static final Path PROGRAM = Path.of("src/main/java/GameClock.java");
    /** What no line of the program may hold, and the rule's number. */
    private static final List<String> BANNED = List.of("->:3", "\\w::\\w:3",
            "\\bNaN\\b:3", "\\bsynchronized\\b:6", "\\bassert\\b:6", "\\bfinally\\b:6", "\\bcatch\\b:6",
            "\\bgetMessage\\b:6", "\\bprintStackTrace\\b:6", "\\bhashCode\\b:6", "\\btoString\\b:6",
            "\\binstanceof\\b:6", "\\bExact\\b:4", "Exact\\(:4", "String\\.(format|valueOf|join):4", "\\bMap\\b:3",
            "\\bSystem\\.(?!arraycopy):13", "\\bRandom\\b:13", "\\bThread\\b:13", "\\bjava\\.io\\b:13", "\" \\+ :10",
            " \\+ \":10", "^package\\b:1", "\\bstatic \\{:5", "_VALUE\\b:4");

    private LanguageTest() {
    }

    public static void main(String[] args) throws IOException {
        List<String> lines = Files.readAllLines(PROGRAM);
        bannedWords(lines);
        imports(lines);
        shortMethods(lines);
        fewParameters(lines);
        sizes(lines);
        signs(lines);
        Check.end("LanguageTest");
    }

    private static String code(String line) {
        String text = line.strip();
        if (text.startsWith("/*") || text.startsWith("*") || text.startsWith("//")) {
            return "";
        }
        return line.replaceAll("//.*", "");
    }

    private static void bannedWords(List<String> lines) {
        for (String ban : BANNED) {
            int colon = ban.lastIndexOf(':');
            Pattern pattern = Pattern.compile(ban.substring(0, colon));
            for (int i = 0; i < lines.size(); i++) {
                boolean found = pattern.matcher(code(lines.get(i))).find();
                Check.same("rule " + ban.substring(colon + 1) + ", line " + (i + 1), found, false);
            }
        }
    }

    private static void imports(List<String> lines) {
        for (String line : lines) {
            if (line.startsWith("import ")) {
                boolean known = List.of("import java.util.Arrays;", "import java.util.NoSuchElementException;")
                        .contains(line);
                Check.same("rule 4: " + line, known, true);
            }
        }
    }

    /** A method's head ends with an opening brace, and its last line is a brace as far in. */
    private static void shortMethods(List<String> lines) {
        Pattern head = Pattern.compile("^( {4}| {8})(?! )[^=]*\\) ?[^=;]*\\{$");
        for (int i = 0; i < lines.size(); i++) {
            Matcher matcher = head.matcher(lines.get(i));
            if (!matcher.find()) {
                continue;
            }
            int end = i;
            while (!lines.get(end).equals(matcher.group(1) + "}")) {
                end++;
            }
            Check.same("rule 11: lines of the method at " + (i + 1), end - i < 60, true);
        }
    }

    private static void fewParameters(List<String> lines) {
        Matcher matcher = Pattern.compile("\\w+ \\w+\\(([^()]*)\\)\\s*(throws [\\w, ]+)?\\{")
                .matcher(String.join(" ", lines));
        while (matcher.find()) {
            int parameters = matcher.group(1).isBlank() ? 0 : matcher.group(1).split(",").length;
            Check.same("rule 11: parameters of " + matcher.group(), parameters <= 7, true);
        }
    }

    private static void sizes(List<String> lines) throws IOException {
        String head = ".*\\b(class|enum|record|interface) .*";
        long classes = lines.stream().filter(line -> code(line).matches(head)).count();
        Check.same("rule 11: classes", classes <= 12, true);
        for (Class<?> inside : GameClock.class.getDeclaredClasses()) {
            long fields = List.of(inside.getDeclaredFields()).stream()
                    .filter(field -> !java.lang.reflect.Modifier.isStatic(field.getModifiers())).count();
            Check.same("rule 11: fields of " + inside, fields <= 20, true);
        }
    }

    private static void signs(List<String> lines) {
        for (String line : lines) {
            Check.same("rule 4: signs of " + line, line.chars().allMatch(sign -> sign >= 32 && sign < 127), true);
        }
    }
}
