import java.io.IOException;
import java.lang.reflect.Field;
import java.net.URL;
import java.net.URLClassLoader;
import java.nio.file.Files;
import java.nio.file.Path;
import java.util.ArrayList;
import java.util.List;
import java.util.regex.MatchResult;
import java.util.regex.Pattern;
import javax.tools.ToolProvider;

/** README.md: its examples answer as they say, and its tables tell each call of the document and what refuses it. */
public final class ReadmeTest {
    private static final Pattern BLOCK = Pattern.compile("(?s)```java\n(.*?)```");
    private static final Pattern EXAMPLE = Pattern.compile("(?m)^(.+); // (-?\\d+|[A-Z]+)\\b.*$");
    private static final Pattern ROW = Pattern.compile("(?m)^\\| `(\\w+\\([^)]*\\))` \\| .* \\| ([^|]*) \\|$");
    private static final Pattern FACE = Pattern.compile("public (?:int|long) (\\w+\\([^)]*\\));");
    private static final Pattern GROUP = Pattern.compile("Ahead of the calls (.*) the interface says: ---- (.*)\\.");
    private static final Pattern LIMIT = Pattern.compile("(?m)^\\| (.*) \\| .* \\| (`.*`) \\|$");
    private static final Due DUE = new Due();

    public static void main(String[] args) throws IOException, ReflectiveOperationException {
        Path project = Path.of(System.getProperty("project", "."));
        String readme = Files.readString(project.resolve("README.md"));
        constants(readme);
        if (ToolProvider.getSystemJavaCompiler() != null) {
            examples(readme);
        } else {
            System.out.println("this java has no compiler: README's examples are not looked at");
        }
        Path document = project.resolve("../shared/DOC.md");
        if (Files.exists(document)) {
            String words = Files.readString(document);
            face(readme, words);
            groups(readme, words);
            refusals(readme, words);
            limits(readme, words);
        } else {
            System.out.println("there is no " + document + ": what it says is not looked at");
        }
        DUE.end();
    }

    private static void is(String what, boolean holds) {
        DUE.due(what, holds ? 1 : 0, 1);
    }

    private static List<MatchResult> all(Pattern pattern, String text) {
        return pattern.matcher(text).results().toList();
    }

    private static void constants(String readme) throws IllegalAccessException {
        for (Field field : SquareAlbum.class.getFields()) {
            String named = "`" + field.getName() + "`";
            int value = field.getInt(null);
            is("README's " + field.getName(), readme.contains(named + " | " + value + " |") || readme.contains(named + " (" + value + ")"));
        }
    }

    /** The examples are compiled as they stand, each with its answer. */
    private static void examples(String readme) throws IOException, ReflectiveOperationException {
        StringBuilder helpers = new StringBuilder();
        StringBuilder run = new StringBuilder();
        int told = 0;
        for (MatchResult block : all(BLOCK, readme)) {
            if (block.group(1).startsWith("static ")) {
                helpers.append(block.group(1));
            } else {
                String lines = block.group(1).replaceAll("\n\\s+\\+ ", " + ");
                told += lines.split("\n").length;
                run.append(EXAMPLE.matcher(lines).replaceAll(ReadmeTest::look));
            }
        }
        List<Object[]> answers = answersOf("public class ReadmeRun {" + helpers
                + "public static void run(java.util.List<Object[]> answers) {" + run + "}}");
        DUE.due("examples with an answer; one line makes the album", answers.size(), told - 1);
        for (Object[] answer : answers) {
            DUE.due("README: " + answer[0], (Long) answer[1], (Long) answer[2]);
        }
    }

    private static String look(MatchResult example) {
        String due = example.group(2);
        String number = Character.isLetter(due.charAt(0)) ? "SquareAlbum." + due : due;
        String name = example.group(1).replace("\"", "'");
        String line = "answers.add(new Object[] {\"" + name + "\", (long) " + example.group(1) + ", (long) " + number + "});";
        return java.util.regex.Matcher.quoteReplacement(line);
    }

    private static List<Object[]> answersOf(String program) throws IOException, ReflectiveOperationException {
        Path out = Files.createTempDirectory("readme");
        Path source = Files.writeString(out.resolve("ReadmeRun.java"), program);
        String classes = System.getProperty("java.class.path");
        int code = ToolProvider.getSystemJavaCompiler().run(null, null, null, "-cp", classes, "-d", out.toString(), source.toString());
        DUE.due("README's examples compile", code, 0);
        List<Object[]> answers = new ArrayList<>();
        try (URLClassLoader loader = new URLClassLoader(new URL[] {out.toUri().toURL()})) {
            loader.loadClass("ReadmeRun").getMethod("run", List.class).invoke(null, answers);
        } finally {
            Files.deleteIfExists(out.resolve("ReadmeRun.class"));
            Files.delete(source);
            Files.delete(out);
        }
        return answers;
    }

    private static void face(String readme, String document) {
        List<String> want = all(FACE, document).stream().map(found -> found.group(1)).toList();
        List<String> told = all(ROW, readme).stream().map(found -> found.group(1)).toList();
        is("README tells the document's calls, in their order: " + told, told.equals(want) && want.size() == 32);
    }

    private static void groups(String readme, String document) {
        List<MatchResult> groups = all(GROUP, document);
        DUE.due("groups of the document", groups.size(), 6);
        for (MatchResult group : groups) {
            String section = sectionOf(readme, "### " + group.group(2));
            List<String> want = List.of(group.group(1).replace("`", "").split(", "));
            List<String> told = all(ROW, section).stream().map(found -> found.group(1).replaceAll("\\(.*", "")).toList();
            is("README's group " + group.group(2) + ": " + told, told.equals(want));
            is("README has examples of " + group.group(2), BLOCK.matcher(section).find());
        }
    }

    private static String sectionOf(String readme, String heading) {
        for (String section : readme.split("\n(?=##)")) {
            if (section.substring(0, section.indexOf('\n')).equalsIgnoreCase(heading)) {
                return section;
            }
        }
        return "";
    }

    /** What a promise says that refuses its call; where it says NO, that is the answer for BAD. */
    private static void refusals(String readme, String document) {
        for (MatchResult row : all(ROW, readme)) {
            String name = row.group(1).replaceAll("\\(.*", "");
            String promise = sectionOf(document.replaceAll("## Promise \\d+: ", "## "), "## " + name);
            StringBuilder want = new StringBuilder();
            for (String answer : new String[] {"BAD", "STATE", "FULL", "NO"}) {
                boolean isSaid = Pattern.compile("\\b" + answer + "\\b").matcher(promise).find();
                boolean isAnswered = isSaid && !(answer.equals("BAD") && promise.contains("NO: BAD"));
                want.append(isAnswered ? "`" + answer + "` " : "");
            }
            String due = want.isEmpty() ? "-" : want.toString().trim();
            is("README: " + name + " is refused by " + due + ", not by " + row.group(2), row.group(2).equals(due));
        }
    }

    private static void limits(String readme, String document) {
        String words = document.replaceAll("\\s+", " ");
        List<MatchResult> rows = all(LIMIT, sectionOf(readme, "### Limits"));
        is("README has limits", rows.size() > 10);
        for (MatchResult row : rows) {
            for (String quoted : row.group(2).replaceAll("^`|`$", "").split("` `")) {
                is("the document says of " + row.group(1) + ": " + quoted, words.contains(quoted));
            }
        }
    }
}
