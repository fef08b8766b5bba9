import java.io.IOException;
import java.lang.reflect.Method;
import java.lang.reflect.Modifier;
import java.nio.file.Files;
import java.nio.file.Path;
import java.util.ArrayList;
import java.util.Arrays;
import java.util.Comparator;
import java.util.List;
import java.util.Map;
import java.util.Set;
import java.util.TreeMap;
import java.util.TreeSet;
import java.util.regex.Matcher;
import java.util.regex.Pattern;
import java.util.stream.Collectors;
import java.util.stream.Stream;

/** README.md: what it says of the use and of the tests can be done as it stands there. */
public final class ReadmeTest {
    private static final Pattern BLOCK = Pattern.compile("```(java|sh|text)\n(.*?)```\n", Pattern.DOTALL);
    private static final String ALL_TESTS = ".ci/run\n";

    record Block(String kind, String text) {
    }

    public static void main(String[] args) throws IOException, InterruptedException {
        String readme = Files.readString(Path.of("README.md"));
        callsOfTheTable(readme);
        testsOfTheTable(readme);
        filesThatAreNamed(readme);
        Path copy = copyOfProject();
        try {
            blocks(blocksOf(readme), copy.resolve("project"));
        } finally {
            remove(copy);
        }
        Check.end();
    }

    // ---- the tables

    /** The parameters bear the names that they have in the class. */
    private static void callsOfTheTable(String readme) throws IOException {
        Set<String> calls = new TreeSet<>();
        for (String cell : firstCells(readme)) {
            if (cell.endsWith(")")) {
                calls.add(cell);
            }
        }
        Set<String> face = new TreeSet<>();
        Matcher method = Pattern.compile("\n    public (?:int|long|double) (\\w+)\\((.*?)\\)")
            .matcher(Files.readString(Path.of("src/main/java/SeamBeats.java")));
        while (method.find()) {
            face.add(method.group(1) + "(" + method.group(2).replaceAll("(int|boolean) ", "") + ")");
        }
        Check.due("methods of the face", face.size(), methodsOfTheFace());
        Check.dueTrue("the calls of the table are " + calls + ", due are " + face, calls.equals(face));
        undoableCalls(readme);
    }

    private static int methodsOfTheFace() {
        int methods = 0;
        for (Method method : SeamBeats.class.getDeclaredMethods()) {
            methods += Modifier.isPublic(method.getModifiers()) ? 1 : 0;
        }
        return methods;
    }

    /** Each call is made once, and saves a state if the table says that it is undoable. */
    private static void undoableCalls(String readme) {
        Map<String, Check.Call> calls = new TreeMap<>();
        SeamBeats x = new SeamBeats();
        x.put(0, 1);
        calls.put("beat", () -> x.beat(0, 1, 0));
        calls.put("wake", () -> x.wake(0, true));
        calls.put("lose", () -> x.lose(0, 1));
        calls.put("seam", () -> x.seam(0, 1, 1, 1));
        calls.put("route", () -> x.route(0, SeamBeats.NONE));
        calls.put("put", () -> x.put(0, 1));
        calls.put("run", () -> x.run(1));
        calls.put("append", () -> x.append('0'));
        calls.put("clearBuffer", x::clearBuffer);
        calls.put("firstError", x::firstError);
        calls.put("putAll", x::putAll);
        calls.put("room", () -> x.room(0, 0));
        calls.put("queue", () -> x.queue(0, 0, 0));
        calls.put("seamOf", () -> x.seamOf(0, 0));
        calls.put("onSeam", () -> x.onSeam(0, 0, 0));
        calls.put("count", () -> x.count(0));
        calls.put("ifRun", () -> x.ifRun(1, 0));
        calls.put("outIn", () -> x.outIn(0));
        calls.put("bestPhase", () -> x.bestPhase(0));
        calls.put("slowest", x::slowest);
        calls.put("outShare", () -> (long) x.outShare());
        calls.put("digest", x::digest);
        Matcher row = Pattern.compile("\n\\| `(\\w+)\\(.*?\\)` \\|.*\\| (yes|no) \\|(?=\n)").matcher(readme);
        int rows = 0;
        while (row.find()) {
            rows++;
            Check.Call call = calls.get(row.group(1));
            if (call == null) {
                // undo drops what others save
                Check.dueTrue(row.group(1) + " is not tried", row.group(1).equals("undo"));
                Check.dueTrue("undo is not undoable", row.group(2).equals("no"));
                continue;
            }
            x.clearBuffer();
            Check.type(x, "5=1");
            while (x.count(11) > 1) {
                x.undo();
            }
            if (x.count(1) == 0) {
                x.seam(0, 1, 1, 1);
            }
            int before = x.count(11);
            call.answer();
            Check.due("states saved by " + row.group(1), x.count(11) - before, row.group(2).equals("yes") ? 1 : 0);
        }
        Check.due("rows of calls", rows, calls.size() + 1);
    }

    private static void testsOfTheTable(String readme) throws IOException {
        Set<String> named = new TreeSet<>();
        for (String cell : firstCells(readme)) {
            if (cell.endsWith("Test")) {
                named.add(cell);
            }
        }
        Set<String> there = new TreeSet<>();
        try (Stream<Path> files = Files.list(Path.of("src/test/java"))) {
            for (Path file : files.collect(Collectors.toList())) {
                String name = file.getFileName().toString();
                if (name.endsWith("Test.java")) {
                    there.add(name.substring(0, name.length() - ".java".length()));
                }
            }
        }
        Check.dueTrue("the tests of the table are " + named + ", due are " + there, named.equals(there));
    }

    private static List<String> firstCells(String readme) {
        List<String> cells = new ArrayList<>();
        Matcher row = Pattern.compile("\n\\| `(.*?)` \\|").matcher(readme);
        while (row.find()) {
            cells.add(row.group(1));
        }
        return cells;
    }

    private static void filesThatAreNamed(String readme) {
        Matcher named = Pattern.compile("`((?:src|\\.\\./shared)/[\\w./]+)`").matcher(readme);
        int names = 0;
        while (named.find()) {
            names++;
            Check.dueTrue("there is no " + named.group(1), Files.exists(Path.of(named.group(1))));
        }
        Check.dueTrue("files are named", names > 0);
    }

    // ---- the example and the commands

    private static List<Block> blocksOf(String readme) {
        List<Block> blocks = new ArrayList<>();
        Matcher block = BLOCK.matcher(readme);
        while (block.find()) {
            blocks.add(new Block(block.group(1), block.group(2)));
        }
        return blocks;
    }

    private static void blocks(List<Block> blocks, Path project) throws IOException, InterruptedException {
        List<String> kinds = blocks.stream().map(Block::kind).collect(Collectors.toList());
        Check.dueTrue("the blocks are " + kinds, kinds.equals(List.of("java", "sh", "text", "sh", "sh", "sh")));
        String printed = "";
        for (Block block : blocks) {
            if (block.kind().equals("java")) {
                Files.writeString(project.resolve("Example.java"), block.text());
            } else if (block.kind().equals("text")) {
                Check.dueTrue("the example prints:\n" + printed, printed.equals(block.text()));
            } else if (block.text().equals(ALL_TESTS)) {
                // it runs this test too, so it is not run from here
                Check.dueTrue(".ci/run can't be run", Files.isExecutable(Path.of(".ci/run")));
            } else {
                printed = run(block.text(), project);
            }
        }
    }

    private static String run(String commands, Path project) throws IOException, InterruptedException {
        Process process = new ProcessBuilder("sh", "-e", "-c", commands).directory(project.toFile())
            .redirectErrorStream(true).start();
        process.getOutputStream().close();
        String printed = new String(process.getInputStream().readAllBytes());
        int exit = process.waitFor();
        Check.dueTrue("exit code " + exit + " of:\n" + commands + "which printed:\n" + printed, exit == 0);
        return printed;
    }

    /** A directory with the sources as "project", and "shared" next to it. */
    private static Path copyOfProject() throws IOException {
        Path copy = Files.createTempDirectory("readme");
        for (String sources : Arrays.asList("src/main/java", "src/test/java")) {
            Path target = copy.resolve("project").resolve(sources);
            Files.createDirectories(target);
            copyFiles(Path.of(sources), target);
        }
        Path tests = copy.resolve("shared/tests");
        Files.createDirectories(tests);
        copyFiles(Path.of("../shared/tests"), tests);
        return copy;
    }

    private static void copyFiles(Path from, Path to) throws IOException {
        try (Stream<Path> files = Files.list(from)) {
            for (Path file : files.collect(Collectors.toList())) {
                Files.copy(file, to.resolve(file.getFileName()));
            }
        }
    }

    private static void remove(Path directory) throws IOException {
        try (Stream<Path> files = Files.walk(directory)) {
            for (Path file : files.sorted(Comparator.reverseOrder()).collect(Collectors.toList())) {
                Files.delete(file);
            }
        }
    }
}
