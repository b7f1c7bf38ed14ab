import java.io.File;
import java.io.IOException;
import java.nio.file.Files;
import java.nio.file.Path;
import java.util.ArrayList;
import java.util.Comparator;
import java.util.LinkedHashMap;
import java.util.List;
import java.util.Map;
import java.util.TreeSet;
import java.util.concurrent.Callable;
import java.util.concurrent.ExecutorService;
import java.util.concurrent.Executors;
import java.util.concurrent.Future;
import java.util.concurrent.TimeUnit;
import java.util.regex.Matcher;
import java.util.regex.Pattern;
import java.util.stream.Stream;
import javax.tools.ToolProvider;

/**
 * Shows of each test that bears a sentence that it fails when that sentence is broken: the class is turned as
 * mutants.txt says, and the test named there has to fail with it. Run by .ci/mutants; needs javac and java.
 *
 * <p>A line there is: test :: a text in the class :: the next words behind it => what stands there instead.
 * A line that begins with & is one more turn of the mutant above it.
 */
public final class Mutants {
    private static final Path CLASS = Path.of("src/main/java/Layerways.java");
    private static final Path TESTS = Path.of("src/test/java");
    private static final Path LIST = Path.of("src/test/mutants/mutants.txt");

    private record Mutant(String test, String source, String told) {
    }

    public static void main(String[] args) throws Exception {
        Path room = Path.of(args[0]);
        Map<String, String> homes = homesOfTests();
        List<Mutant> mutants = read(Files.readString(CLASS));
        compile(room.resolve("tests"), CLASS, TESTS);
        TreeSet<String> without = new TreeSet<>(homes.keySet());
        ExecutorService crew = Executors.newFixedThreadPool(Runtime.getRuntime().availableProcessors());
        List<Future<String>> answers = new ArrayList<>();
        for (Mutant mutant : mutants) {
            without.remove(mutant.test);
            Path own = room.resolve("mutant" + answers.size());
            Callable<String> job = () -> judge(mutant, homes.get(mutant.test), own, room.resolve("tests"));
            answers.add(crew.submit(job));
        }
        int bad = without.size();
        for (Future<String> answer : answers) {
            if (!answer.get().isEmpty()) {
                bad++;
                System.out.println(answer.get());
            }
        }
        crew.shutdown();
        for (String test : without) {
            System.out.println("no mutant for " + test);
        }
        System.out.println(mutants.size() + " mutants, " + homes.size() + " tests, " + bad + " faults");
        System.exit(bad == 0 ? 0 : 1);
    }

    /** Each test that bears a sentence, with the class in which it stands. */
    private static Map<String, String> homesOfTests() throws IOException {
        Map<String, String> homes = new LinkedHashMap<>();
        Pattern bearer = Pattern.compile("@Sentence\\(.*\\)\\R    static void (\\w+)\\(");
        try (Stream<Path> files = Files.list(TESTS)) {
            for (Path file : files.sorted(Comparator.naturalOrder()).toList()) {
                Matcher found = bearer.matcher(Files.readString(file));
                while (found.find()) {
                    homes.put(found.group(1), file.getFileName().toString().replace(".java", ""));
                }
            }
        }
        return homes;
    }

    private static List<Mutant> read(String source) throws IOException {
        List<Mutant> mutants = new ArrayList<>();
        for (String line : Files.readAllLines(LIST)) {
            if (line.isBlank() || line.startsWith("#")) {
                continue;
            }
            String[] cut = line.split(" :: ", 3);
            String[] turn = cut[2].split(" => ?", 2);
            if (cut[0].equals("&")) {
                Mutant last = mutants.remove(mutants.size() - 1);
                mutants.add(new Mutant(last.test, turned(last.source, cut[1], turn, line), last.told + "\n" + line));
            } else {
                mutants.add(new Mutant(cut[0], turned(source, cut[1], turn, line), line));
            }
        }
        return mutants;
    }

    private static String turned(String source, String anchor, String[] turn, String line) {
        int from = source.indexOf(anchor);
        int at = from < 0 ? -1 : source.indexOf(turn[0], from);
        if (at < 0) {
            throw new IllegalStateException("does not fit the class any more: " + line);
        }
        return source.substring(0, at) + turn[1] + source.substring(at + turn[0].length());
    }

    private static String judge(Mutant mutant, String home, Path own, Path tests) throws Exception {
        if (home == null) {
            return "no such test: " + mutant.told;
        }
        Files.createDirectories(own);
        Path source = own.resolve("Layerways.java");
        Files.writeString(source, mutant.source);
        if (!compile(own, source)) {
            return "does not compile: " + mutant.told;
        }
        File print = own.resolve("print").toFile();
        Process run = new ProcessBuilder("java", "-XX:TieredStopAtLevel=1", "-cp", own + File.pathSeparator + tests, home, mutant.test)
                .redirectErrorStream(true).redirectOutput(print).start();
        if (!run.waitFor(60, TimeUnit.SECONDS)) {
            run.destroyForcibly();
            return "";
        }
        boolean named = Files.readString(print.toPath()).contains(mutant.test);
        return run.exitValue() == 1 && named ? "" : "stays alive: " + mutant.told;
    }

    private static boolean compile(Path out, Path... sources) throws IOException {
        Files.createDirectories(out);
        List<String> words = new ArrayList<>(List.of("-encoding", "UTF-8", "-nowarn", "-d", out.toString()));
        for (Path source : sources) {
            if (!Files.isDirectory(source)) {
                words.add(source.toString());
                continue;
            }
            try (Stream<Path> files = Files.list(source)) {
                files.forEach(file -> words.add(file.toString()));
            }
        }
        return ToolProvider.getSystemJavaCompiler().run(null, null, null, words.toArray(new String[0])) == 0;
    }
}
