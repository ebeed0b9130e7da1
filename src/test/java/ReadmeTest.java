import java.io.IOException;
import java.lang.reflect.Method;
import java.nio.charset.StandardCharsets;
import java.nio.file.Files;
import java.nio.file.Path;
import java.util.ArrayList;
import java.util.Comparator;
import java.util.List;
import java.util.Set;
import java.util.TreeSet;
import java.util.function.ToIntFunction;
import java.util.regex.Matcher;
import java.util.regex.Pattern;
import java.util.stream.Stream;

/**
 * README.md does as it says: in a copy of the project its programs are saved where it says, its commands are typed and print what it
 * says, each call of its chapters answers what stands behind it, and its tables name every call, every limit and every test.
 */
public final class ReadmeTest {
    private static final Pattern SAVED = Pattern.compile("[Ss]ave this (?:one )?as\\s+`([\\w/]+\\.java)`");
    private static final Pattern STATEMENT =
            Pattern.compile("^(?:(int|long) (\\w+) = )?(fund\\..*\\));\\s*// (NO \\+ 1|-?\\d+|NONE|BAD|STATE|FULL|NO)(?:: .*)?$");

    /** A block of code, its language, and the text between the block ahead and this one. */
    private record Block(String language, String ahead, String code) {
    }

    private final String readme;
    private final List<Block> blocks;
    private final Path project;

    private ReadmeTest(String readme, Path project) {
        this.readme = readme;
        this.project = project;
        blocks = blocksOf(readme);
    }

    public static void main(String[] args) throws Exception {
        Path room = Files.createTempDirectory("readme");
        try {
            copyAll(Path.of(""), room.resolve("main"), List.of("README.md", ".ci", "src"));
            copyAll(Path.of(".."), room, List.of("shared"));
            ReadmeTest test = new ReadmeTest(Files.readString(Path.of("README.md")), room.resolve("main"));
            test.everyCallHasARow();
            test.limits();
            test.everyTestIsNamed();
            test.linksLeadSomewhere();
            test.savePrograms();
            test.typeCommands();
            test.callsAnswer();
            test.ciRuns();
        } finally {
            deleteAll(room);
        }
        Check.end("ReadmeTest");
    }

    private static void is(String what, boolean so) {
        Check.due(what, so ? 1 : 0, 1);
    }

    private static List<Block> blocksOf(String readme) {
        List<Block> blocks = new ArrayList<>();
        Matcher fence = Pattern.compile("(?s)```(\\w+)\n(.*?)```\n").matcher(readme);
        int behind = 0;
        while (fence.find()) {
            blocks.add(new Block(fence.group(1), readme.substring(behind, fence.start()), fence.group(2)));
            behind = fence.end();
        }
        return blocks;
    }

    // ---- tables and links

    private void everyCallHasARow() {
        Set<String> rows = new TreeSet<>();
        Matcher row = Pattern.compile("(?m)^\\| `((?:int|long) \\w+\\([^)]*\\))` \\| \\S").matcher(readme);
        while (row.find()) is("one row of " + row.group(1), rows.add(row.group(1).replaceAll("(int|long|boolean) \\w+(?=[,)])", "$1")));
        for (Method method : WidowsFund.class.getDeclaredMethods()) {
            if (!java.lang.reflect.Modifier.isPublic(method.getModifiers())) continue;
            List<String> types = new ArrayList<>();
            for (Class<?> type : method.getParameterTypes()) types.add(type.getName());
            String call = method.getReturnType().getName() + " " + method.getName() + "(" + String.join(", ", types) + ")";
            is("README has a row of " + call, rows.remove(call));
        }
        is("README has rows of no other calls: " + rows, rows.isEmpty());
    }

    private int limitOf(String thing) {
        Matcher row = Pattern.compile("(?m)^\\| " + thing + " \\| (\\d+) \\|$").matcher(readme);
        boolean found = row.find();
        is("README has a limit of " + thing, found);
        return found ? Integer.parseInt(row.group(1)) : -1;
    }

    /** How often something may be told until it is refused. */
    private static int howOften(WidowsFund x, ToIntFunction<WidowsFund> told) {
        int many = 0;
        while (many < 400 && told.applyAsInt(x) >= 0) many++;
        return many;
    }

    private void limits() {
        WidowsFund x = Funds.couple("");
        Check.due("limit of persons", howOften(x, f -> f.person(0, 5, -1, -1)) + 4, limitOf("persons"));
        Check.due("limit of entries", howOften(x, f -> f.pay(0, 1, 3000)) + 2, limitOf("entries"));
        Check.due("limit of loans", howOften(x, f -> f.loan(1, 1, 1, 1)), limitOf("loans"));
        Check.due("limit of rows", howOften(x, f -> f.row()), limitOf("rows"));
        Check.due("limit of deaths of a row", howOften(x, f -> f.rows(0, 0, 40)), limitOf("deaths of a row"));
        Check.due("limit of steps", howOften(x, f -> f.step(0, 100)), limitOf("steps"));
        Check.due("limit of acts", howOften(x, f -> Check.act(f, "due=1", 0)), limitOf("acts"));
        WidowsFund y = new WidowsFund();
        Check.due("limit of bytes", howOften(y, f -> f.feed(0, 1)), limitOf("bytes on the tape"));
        WidowsFund z = new WidowsFund();
        int clauses = limitOf("clauses of an act");
        Check.due("an act of so many clauses", Check.act(z, "due=1" + ";due=1".repeat(clauses - 1), 0), 0);
        Check.due("an act of one more", Check.act(z, "due=1" + ";due=1".repeat(clauses), 0), -10 - (6 * clauses - 1));
        int seats = limitOf("seats");
        Check.due("so many seats", z.seat(seats), 0);
        Check.due("one more", z.seat(seats + 1), WidowsFund.BAD);
    }

    private void everyTestIsNamed() throws IOException {
        Set<String> files = new TreeSet<>();
        try (Stream<Path> tests = Files.list(project.resolve("src/test/java"))) {
            tests.forEach(file -> files.add(file.getFileName().toString().replace(".java", "")));
        }
        for (String file : files) is("README names " + file, readme.contains("`" + file + "`"));
        Matcher row = Pattern.compile("(?m)^\\| (`\\w+Test`(?:, `\\w+Test`)*) \\|").matcher(readme);
        while (row.find()) {
            for (String name : row.group(1).replace("`", "").split(", ")) is("there is a test " + name, files.contains(name));
        }
    }

    private void linksLeadSomewhere() {
        Set<String> heads = new TreeSet<>();
        Matcher head = Pattern.compile("(?m)^## (.*)$").matcher(readme);
        while (head.find()) heads.add("#" + head.group(1).toLowerCase().replaceAll("[^a-z0-9 ]", "").replace(' ', '-'));
        Matcher link = Pattern.compile("\\]\\((#[^)]*)\\)").matcher(readme);
        while (link.find()) is("link " + link.group(1), heads.remove(link.group(1)));
        is("every chapter has a link, but not " + heads, heads.isEmpty());
    }

    // ---- programs and commands

    private static boolean isProgram(Block block) {
        return block.language.equals("java") && block.code.contains("public final class ");
    }

    private void savePrograms() throws IOException {
        int saved = 0;
        for (Block block : blocks) {
            if (!isProgram(block)) continue;
            Matcher place = SAVED.matcher(block.ahead);
            boolean told = place.find();
            is("README says where to save " + block.code.substring(0, 60), told);
            if (!told) continue;
            Files.writeString(project.resolve(place.group(1)), block.code);
            saved++;
        }
        Check.due("programs of README", saved, 2);
    }

    private void typeCommands() throws Exception {
        int typed = 0;
        for (int i = 0; i < blocks.size(); i++) {
            Block block = blocks.get(i);
            if (!block.language.equals("bash") || block.code.contains(".ci/run")) continue;
            String printed = type(block.code, 0);
            typed++;
            if (i + 1 == blocks.size() || !blocks.get(i + 1).language.equals("text")) continue;
            String told = blocks.get(i + 1).code;
            is("README's commands print:\n" + printed + "README says:\n" + told, printed.equals(told));
        }
        Check.due("commands of README", typed, 2);
    }

    /** Types commands in the copy: what they print. */
    private String type(String commands, int code) throws Exception {
        Process process = new ProcessBuilder("bash", "-e", "-c", commands).directory(project.toFile())
                .redirectError(ProcessBuilder.Redirect.INHERIT).start();
        process.getOutputStream().close();
        String printed = new String(process.getInputStream().readAllBytes(), StandardCharsets.UTF_8);
        int ended = process.waitFor();
        Check.due("exit code of " + commands.trim(), ended, code);
        if (ended != code) System.out.println(printed);
        return printed;
    }

    // ---- calls and their answers

    /** The chapters' pieces of code, in their order, become one program that asks each answer. */
    private void callsAnswer() throws Exception {
        StringBuilder program = new StringBuilder("final class ReadmeCalls {\n"
                + "static final int NONE = WidowsFund.NONE, BAD = WidowsFund.BAD, STATE = WidowsFund.STATE, FULL = WidowsFund.FULL;\n"
                + "static final long NO = WidowsFund.NO;\n"
                + "static void feed(WidowsFund fund, String text) { Example.feed(fund, text); }\n"
                + "public static void main(String[] args) {\n");
        Set<String> asked = new TreeSet<>();
        for (Block block : blocks) {
            if (!block.language.equals("java") || isProgram(block)) continue;
            for (String line : block.code.split("\n")) program.append(askedLine(line, asked)).append('\n');
        }
        program.append("Check.end(\"README's calls\");\n}\n}\n");
        Files.writeString(project.resolve("ReadmeCalls.java"), program);
        String tests = "src/test/java/Check.java";
        System.out.print(type("javac -d calls src/main/java/WidowsFund.java " + tests + " Example.java ReadmeCalls.java\n"
                + "java -cp calls ReadmeCalls", 0));
        for (Method method : WidowsFund.class.getDeclaredMethods()) {
            if (java.lang.reflect.Modifier.isPublic(method.getModifiers())) {
                is("README shows a call of " + method.getName(), asked.contains(method.getName()));
            }
        }
    }

    private static String askedLine(String line, Set<String> asked) {
        if (line.equals("WidowsFund fund = new WidowsFund();") || line.matches("feed\\(fund, \"[^\"]*\"\\);")) return line;
        Matcher statement = STATEMENT.matcher(line);
        boolean told = statement.matches();
        is("README says what is answered: " + line, told);
        if (!told) return "";
        String call = statement.group(3);
        asked.add(call.substring(5, call.indexOf('(')));
        String ask = "Check.due(\"" + call + "\", ";
        if (statement.group(1) == null) return ask + call + ", " + statement.group(4) + ");";
        String name = statement.group(2);
        return statement.group(1) + " " + name + " = " + call + "; " + ask + name + ", " + statement.group(4) + ");";
    }

    // ---- .ci/run

    /** In the copy, with README's own test alone; all others run there, too, would run this one for ever. */
    private void ciRuns() throws Exception {
        Path tests = project.resolve("src/test/java");
        Path own = tests.resolve("BeginTest.java");
        try (Stream<Path> files = Files.list(tests)) {
            for (Path file : files.toList()) {
                if (!file.equals(own) && !file.endsWith("Check.java")) Files.delete(file);
            }
        }
        int typed = 0;
        for (Block block : blocks) {
            if (!block.language.equals("bash") || !block.code.contains(".ci/run")) continue;
            typed++;
            String[] right = type(block.code, 0).split("\n");
            is("BeginTest is run", List.of(right).contains("ok   BeginTest"));
            is("its last line: " + right[right.length - 1], right[right.length - 1].matches("[1-9]\\d* passed, 0 failed"));
            String text = Files.readString(own);
            Files.writeString(own, text.replace("-1), 500)", "-1), 501)"));
            String[] wrong = type(block.code, 1).split("\n");
            is("BeginTest fails", List.of(wrong).contains("FAIL BeginTest"));
            is("its wrong answer is told", List.of(wrong).contains("chest(0, -1) answered 500, due is 501"));
            is("its last line: " + wrong[wrong.length - 1], wrong[wrong.length - 1].matches("[1-9]\\d* passed, 1 failed"));
            Files.writeString(own, text);
        }
        Check.due("commands that run all tests", typed, 1);
    }

    // ---- files

    private static void copyAll(Path from, Path to, List<String> names) throws IOException {
        for (String name : names) {
            try (Stream<Path> files = Files.walk(from.resolve(name))) {
                for (Path file : files.toList()) {
                    Path copy = to.resolve(from.relativize(file).toString());
                    if (Files.isDirectory(file)) Files.createDirectories(copy);
                    else Files.write(parented(copy), Files.readAllBytes(file));
                }
            }
        }
    }

    private static Path parented(Path file) throws IOException {
        Files.createDirectories(file.getParent());
        return file;
    }

    private static void deleteAll(Path room) throws IOException {
        try (Stream<Path> files = Files.walk(room)) {
            for (Path file : files.sorted(Comparator.reverseOrder()).toList()) Files.delete(file);
        }
    }
}
