import java.io.IOException;
import java.lang.reflect.Field;
import java.nio.file.Files;
import java.nio.file.Path;
import java.nio.file.StandardCopyOption;
import java.util.ArrayList;
import java.util.List;
import java.util.Set;
import java.util.TreeSet;
import java.util.regex.Matcher;
import java.util.regex.Pattern;
import java.util.stream.Stream;

/** That what README.md says is so: its program and its commands are tried, and its tables compared. */
public final class ReadmeTest {
    private static final Check CHECK = new Check("ReadmeTest");
    private static final String SOURCE = "src/main/java/StatuteBook.java";
    private static final Path TESTS = Path.of("src/test/java");
    /** The commands run in a copy, so that the program of the page stands nowhere among the project's own files. */
    private static final Path COPY = Path.of("build/readme/main");

    public static void main(String[] args) throws IOException, InterruptedException {
        String page = Files.readString(Path.of("README.md"));
        copyProject(page);
        programPrints(page);
        commandsEndWell(page);
        textsAreEnacted(page);
        answersAreTold(page);
        callsAreTold(page);
        testsAreTold(page);
        CHECK.end();
    }

    /** The blocks of the page in a language. */
    private static List<String> blocks(String page, String language) {
        List<String> blocks = new ArrayList<>();
        Matcher matcher = Pattern.compile("(?ms)^```" + language + "\\n(.*?)^```$").matcher(page);
        while (matcher.find()) {
            blocks.add(matcher.group(1));
        }
        return blocks;
    }

    /** The rows of the table with this head. */
    private static List<String> rows(String page, String head) {
        List<String> rows = new ArrayList<>();
        boolean inside = false;
        for (String line : page.split("\n")) {
            boolean isHead = line.startsWith("| " + head + " |");
            inside = isHead || inside && line.startsWith("|");
            if (inside && !isHead && !line.startsWith("|---")) {
                rows.add(line);
            }
        }
        CHECK.dueTrue("the table of " + head, !rows.isEmpty());
        return rows;
    }

    private static List<String> firstCells(List<String> rows) {
        List<String> cells = new ArrayList<>();
        for (String row : rows) {
            cells.add(row.split("\\|")[1].trim());
        }
        return cells;
    }

    private static List<String> quoted(List<String> cells) {
        List<String> quoted = new ArrayList<>();
        for (String cell : cells) {
            Matcher matcher = Pattern.compile("`([^`]+)`").matcher(cell);
            while (matcher.find()) {
                quoted.add(matcher.group(1));
            }
        }
        return quoted;
    }

    private static void copyProject(String page) throws IOException {
        copy(Path.of(SOURCE));
        for (Path each : testFiles()) {
            copy(each);
        }
        Files.writeString(COPY.resolve("Try.java"), blocks(page, "java").get(0));
        Path shared = COPY.resolveSibling("shared");
        Files.deleteIfExists(shared);
        Files.createSymbolicLink(shared, Path.of("../shared").toAbsolutePath().normalize());
    }

    private static void copy(Path file) throws IOException {
        Files.createDirectories(COPY.resolve(file).getParent());
        Files.copy(file, COPY.resolve(file), StandardCopyOption.REPLACE_EXISTING);
    }

    private static List<Path> testFiles() throws IOException {
        try (Stream<Path> files = Files.list(TESTS)) {
            return files.filter(each -> each.toString().endsWith(".java")).sorted().toList();
        }
    }

    /** What a program or a command prints, and behind it a line that tells its exit code. */
    private static String printedBy(String commands) throws IOException, InterruptedException {
        Process process = new ProcessBuilder("sh", "-e", "-c", commands).directory(COPY.toFile())
                .redirectErrorStream(true).start();
        String printed = new String(process.getInputStream().readAllBytes());
        return printed + "exit " + process.waitFor() + "\n";
    }

    private static void programPrints(String page) throws IOException, InterruptedException {
        String printed = printedBy(blocks(page, "sh").get(0));
        boolean asTold = printed.equals(blocks(page, "text").get(0) + "exit 0\n");
        CHECK.dueTrue("the program prints what the page tells, but\n" + printed, asTold);
    }

    private static void commandsEndWell(String page) throws IOException, InterruptedException {
        List<String> commands = blocks(page, "sh");
        CHECK.due("blocks of commands", commands.size(), 3);
        for (String each : commands) {
            if (each.equals(".ci/run\n")) {
                // It is what runs this test, so it is not run here again.
                CHECK.dueTrue(".ci/run can be run", Files.isExecutable(Path.of(".ci/run")));
            } else {
                String printed = printedBy(each);
                CHECK.dueTrue("all ends well, but\n" + printed, printed.endsWith("\nexit 0\n"));
            }
        }
    }

    private static void textsAreEnacted(String page) {
        for (String text : quoted(firstCells(rows(page, "text")))) {
            CHECK.due("enact of " + text, Check.enact(new StatuteBook(), text, 1), 0);
            if (text.contains("saving")) {
                String without = text.replace(" saving", "");
                CHECK.due("enact of " + without, Check.enact(new StatuteBook(), without, 1), 0);
            }
        }
        StatuteBook book = Check.bookOf("1 insert 12AB");
        CHECK.due("the code of 12AB", book.clause(1, StatuteBook.NONE, 0, 0), 729 * 12 + 27 * 1 + 2);
    }

    private static void answersAreTold(String page) throws IOException {
        Set<String> told = new TreeSet<>();
        for (String cell : firstCells(rows(page, "answer"))) {
            if (cell.startsWith("`")) {
                told.add(cell);
            }
        }
        Set<String> open = new TreeSet<>();
        for (Field field : StatuteBook.class.getFields()) {
            open.add("`" + field.getName() + "` (" + valueOf(field) + ")");
        }
        CHECK.dueTrue("the answers " + told + " are " + open, told.equals(open));
    }

    private static int valueOf(Field field) throws IOException {
        try {
            return field.getInt(null);
        } catch (IllegalAccessException e) {
            throw new IOException(field.getName(), e);
        }
    }

    /** Each call is told once, in the order of the document, with the numbers of its promises. */
    private static void callsAreTold(String page) {
        List<String> promised = new ArrayList<>(List.of("a new object"));
        for (String each : LanguageTest.FACE) {
            promised.add(LanguageTest.nameOf(each));
        }
        CHECK.due("promises", promised.size(), 32);
        int told = 1;
        for (String line : rows(page, "calls")) {
            List<String> calls = quoted(firstCells(List.of(line)));
            int end = told + calls.size();
            boolean inOrder = end <= promised.size() && calls.equals(promised.subList(told, end));
            CHECK.dueTrue("the order of " + line, inOrder);
            String joint = calls.size() == 2 ? ", " : " to ";
            CHECK.dueTrue("the promises of " + line, line.contains("| " + (told + 1) + joint + end + " |"));
            told = end;
        }
        CHECK.due("promises that are told", told, 32);
    }

    private static void testsAreTold(String page) throws IOException {
        List<String> there = new ArrayList<>();
        for (Path each : testFiles()) {
            String name = each.getFileName().toString().replace(".java", "");
            if (name.endsWith("Test")) {
                there.add(name);
            }
        }
        List<String> told = quoted(firstCells(rows(page, "test")));
        told.removeIf(each -> !each.endsWith("Test"));
        CHECK.due("tests that are told", told.size(), there.size());
        CHECK.dueTrue("the tests " + told + " are " + there, told.containsAll(there));
    }
}
