import java.io.IOException;
import java.lang.reflect.Field;
import java.lang.reflect.Method;
import java.lang.reflect.Modifier;
import java.nio.file.Files;
import java.nio.file.Path;
import java.nio.file.StandardCopyOption;
import java.util.ArrayList;
import java.util.Comparator;
import java.util.List;
import java.util.Map;
import java.util.Set;
import java.util.TreeMap;
import java.util.TreeSet;
import java.util.regex.Matcher;
import java.util.regex.Pattern;
import java.util.stream.Stream;

/** What README.md says to type works on a clean checkout, and what it tells of the face is so. */
public final class ReadmeTest {
    private static final Path README = Path.of("README.md");
    private static final Path EXAMPLE = Path.of("src/example/java/Example.java");
    private static final Path TESTS = Path.of("src/test/java");
    private static final String RUN_ALL = ".ci/run\n";
    private static final String[] IN_A_CHECKOUT = {"README.md", ".ci", "src"};

    private static final Pattern BLOCK = Pattern.compile("^```(\\w+)\n(.*?)^```$", Pattern.DOTALL | Pattern.MULTILINE);
    private static final Pattern CALL = Pattern.compile("^\\| `(\\w+)\\(([^)]*)\\)` \\|([^|]*)\\|([^|]*)\\|$",
            Pattern.MULTILINE);
    private static final Pattern KIND = Pattern.compile("^\\| `(\\w+)` \\| (-?\\d+) \\| (\\w+) \\| (\\w+) \\|$",
            Pattern.MULTILINE);
    private static final Pattern EXCEPTION = Pattern.compile("`(\\w+Exception)`");
    private static final Pattern TEST = Pattern.compile("`(\\w+Test)`");

    private static final Checks checks = new Checks();

    private record Block(String kind, String text) {
    }

    public static void main(String[] args) throws IOException, InterruptedException {
        String readme = Files.readString(README);
        List<Block> blocks = blocksOf(readme);
        theExampleIsTheFile(blocks);
        whatIsTypedWorks(blocks);
        theCallsAreThoseOfTheFace(readme);
        theKindsAreThoseOfTheClass(readme);
        allTestsAreNamed(readme);
        checks.end();
    }

    private static List<Block> blocksOf(String readme) {
        List<Block> blocks = new ArrayList<>();
        Matcher matcher = BLOCK.matcher(readme);
        while (matcher.find()) {
            blocks.add(new Block(matcher.group(1), matcher.group(2)));
        }
        return blocks;
    }

    private static void same(String what, Object want, Object got) {
        checks.due(what + " is the same", true, want.equals(got));
        if (!want.equals(got)) {
            System.out.println("due is:\n" + want + "\nbut there is:\n" + got);
        }
    }

    private static void theExampleIsTheFile(List<Block> blocks) throws IOException {
        int examples = 0;
        for (Block block : blocks) {
            if (block.kind.equals("java")) {
                examples++;
                same(EXAMPLE + " in the README", Files.readString(EXAMPLE), block.text);
            }
        }
        checks.due("the examples", 1, examples);
    }

    // ---- what is typed

    private static void whatIsTypedWorks(List<Block> blocks) throws IOException, InterruptedException {
        Path checkout = Files.createTempDirectory("readme");
        try {
            copyCheckout(checkout);
            runAll(blocks, checkout);
        } finally {
            delete(checkout);
        }
    }

    private static void runAll(List<Block> blocks, Path checkout) throws IOException, InterruptedException {
        String printed = "";
        int compared = 0;
        boolean toldHowToRunAll = false;
        for (Block block : blocks) {
            if (block.kind.equals("text")) {
                same("what is printed", block.text, printed);
                compared++;
            } else if (block.text.equals(RUN_ALL)) {
                // It is what runs this test: here only that it can be run.
                toldHowToRunAll = Files.isExecutable(checkout.resolve(block.text.trim()));
            } else if (block.kind.equals("sh")) {
                printed = run(block.text, checkout);
            }
        }
        checks.due("what is printed is compared once", 1, compared);
        checks.due("it is told how to run all tests", true, toldHowToRunAll);
    }

    private static String run(String commands, Path folder) throws IOException, InterruptedException {
        ProcessBuilder shell = new ProcessBuilder("sh", "-e", "-c", commands);
        shell.directory(folder.toFile()).redirectErrorStream(true);
        Process process = shell.start();
        process.getOutputStream().close();
        String printed = new String(process.getInputStream().readAllBytes());
        int code = process.waitFor();
        checks.due(commands + "which printed\n" + printed + "and", 0, code);
        return printed;
    }

    private static void copyCheckout(Path to) throws IOException {
        for (String name : IN_A_CHECKOUT) {
            for (Path from : below(Path.of(name))) {
                Path copy = to.resolve(from.toString());
                Files.copy(from, copy, StandardCopyOption.COPY_ATTRIBUTES);
            }
        }
    }

    /** The path itself first, and each folder ahead of what is in it. */
    private static List<Path> below(Path path) throws IOException {
        try (Stream<Path> all = Files.walk(path)) {
            return all.sorted().toList();
        }
    }

    private static void delete(Path folder) throws IOException {
        List<Path> all = new ArrayList<>(below(folder));
        all.sort(Comparator.reverseOrder());
        for (Path path : all) {
            Files.delete(path);
        }
    }

    // ---- what is told of the face

    private static void theCallsAreThoseOfTheFace(String readme) {
        Map<String, String> want = new TreeMap<>();
        for (Method method : Spritehall.class.getDeclaredMethods()) {
            if (Modifier.isPublic(method.getModifiers())) {
                StringBuilder told = new StringBuilder().append(method.getParameterCount());
                for (Class<?> thrown : method.getExceptionTypes()) {
                    told.append(' ').append(thrown.getSimpleName());
                }
                want.put(method.getName(), told.toString());
            }
        }
        Map<String, String> got = new TreeMap<>();
        Matcher rows = CALL.matcher(readme);
        while (rows.find()) {
            int parameters = rows.group(2).isEmpty() ? 0 : rows.group(2).split(",").length;
            StringBuilder told = new StringBuilder().append(parameters);
            Matcher thrown = EXCEPTION.matcher(rows.group(4));
            while (thrown.find()) {
                told.append(' ').append(thrown.group(1));
            }
            checks.due(rows.group(1) + " has one row", true, got.put(rows.group(1), told.toString()) == null);
        }
        same("parameters and exceptions of the calls", want, got);
    }

    private static void theKindsAreThoseOfTheClass(String readme) {
        Map<String, Integer> want = new TreeMap<>();
        for (Field field : Spritehall.class.getDeclaredFields()) {
            if (Modifier.isPublic(field.getModifiers())) {
                want.put(field.getName(), valueOf(field));
            }
        }
        Map<String, Integer> got = new TreeMap<>();
        Matcher rows = KIND.matcher(readme);
        while (rows.find()) {
            int kind = Integer.parseInt(rows.group(2));
            got.put(rows.group(1), kind);
            Spritehall hall = Halls.held(2);
            hall.tie(100, 101, kind);
            same(rows.group(1) + " counts", rows.group(4), hall.count(101) == 1 ? "yes" : "no");
            same(rows.group(1) + " holds", rows.group(3), hall.unroot(101) == 2 ? "yes" : "no");
        }
        checks.due("NONE is told", true, readme.contains("**`NONE`** (" + Spritehall.NONE + ")"));
        want.remove("NONE");
        same("the kinds of links", want, got);
    }

    private static int valueOf(Field constant) {
        try {
            return constant.getInt(null);
        } catch (IllegalAccessException e) {
            throw new IllegalStateException(e);
        }
    }

    private static void allTestsAreNamed(String readme) throws IOException {
        Set<String> want = new TreeSet<>();
        for (Path path : below(TESTS)) {
            String name = path.getFileName().toString();
            if (name.endsWith("Test.java")) {
                want.add(name.substring(0, name.length() - ".java".length()));
            }
        }
        Set<String> got = new TreeSet<>();
        Matcher names = TEST.matcher(readme);
        while (names.find()) {
            got.add(names.group(1));
        }
        same("the tests", want, got);
    }
}
