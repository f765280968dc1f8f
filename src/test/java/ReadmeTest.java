import java.io.IOException;
import java.nio.file.Files;
import java.nio.file.Path;
import java.nio.file.StandardCopyOption;
import java.util.ArrayList;
import java.util.Comparator;
import java.util.List;
import java.util.Set;
import java.util.TreeSet;
import java.util.regex.Matcher;
import java.util.regex.Pattern;
import java.util.stream.Stream;

// Does what README.md tells, in a copy of this directory, and looks whether it comes out as it tells.
public final class ReadmeTest {
    private static final String PASSES =
        "public final class %s { public static void main(String[] args) { new AgesByMiles(); } }";
    private static final String FAILS =
        "public final class %s { public static void main(String[] args) { System.exit(1); } }";
    private static final String CI = ".ci/run";
    private static int wrong = 0;
    private static int looked = 0;

    private static void due(String what, Object got, Object want) {
        looked++;
        if (!got.equals(want)) {
            wrong++;
            System.out.println(what + " is " + got + ", due is " + want);
        }
    }

    public static void main(String[] args) throws IOException, InterruptedException {
        String readme = Files.readString(Path.of("README.md"));
        Path copy = Files.createTempDirectory("readme");
        try {
            programIsAsTold(readme, copy.resolve("walk"));
            testsAreNamed(readme);
            oneTestRunsAlone(readme, copy.resolve("one"));
            ciFailsByOneTest(readme, copy.resolve("ci"));
        } finally {
            remove(copy);
        }
        System.out.println("ReadmeTest: " + looked + " things that README.md tells looked at, " + wrong + " not so");
        if (wrong != 0) {
            System.exit(1);
        }
    }

    private static void programIsAsTold(String readme, Path here) throws IOException, InterruptedException {
        copyTree(Path.of("src"), here.resolve("src"));
        List<String> programs = blocks(readme, "java");
        due("how many programs there are", programs.size(), 1);
        Files.writeString(here.resolve("Walk.java"), programs.get(0));
        Matcher told = Pattern.compile("println\\(.*\\); +// (-?[0-9]+)").matcher(programs.get(0));
        List<String> want = new ArrayList<>();
        while (told.find()) {
            want.add(told.group(1));
        }
        long prints = programs.get(0).lines().filter(line -> line.contains("println(")).count();
        due("lines that tell what they print", (long) want.size(), prints);
        Ran ran = run(here, blocks(readme, "sh").get(0));
        due("the program's exit code", ran.code, 0);
        due("what the program prints", ran.said.lines().toList(), want);
    }

    private static void testsAreNamed(String readme) throws IOException {
        Set<String> there = new TreeSet<>();
        try (Stream<Path> files = Files.list(Path.of("src/test/java"))) {
            files.forEach(file -> there.add(file.getFileName().toString().replace(".java", "")));
        }
        Set<String> named = new TreeSet<>();
        Matcher name = Pattern.compile("`(\\w+Test)`").matcher(readme);
        while (name.find()) {
            named.add(name.group(1));
        }
        due("the tests that are named", named, there);
        due("the second command", blocks(readme, "sh").get(1).strip(), CI);
    }

    private static void oneTestRunsAlone(String readme, Path here) throws IOException, InterruptedException {
        copyTree(Path.of("src"), here.resolve("src"));
        Ran ran = run(here, blocks(readme, "sh").get(2));
        due("the exit code of one test alone", ran.code, 0);
        boolean passed = ran.said.contains("PromisesTest: ") && ran.said.contains(" 0 not as due");
        due("that it tells that it passed", passed, true);
    }

    private static void ciFailsByOneTest(String readme, Path here) throws IOException, InterruptedException {
        copyTree(Path.of(".ci"), here.resolve(".ci"));
        copyTree(Path.of("src/main"), here.resolve("src/main"));
        Path own = here.resolve("src/test/java/OwnTest.java");
        Path shared = here.resolve("other/tests/SharedRuns.java");
        Files.createDirectories(own.getParent());
        Files.createDirectories(shared.getParent());
        ciEnds(here, "all tests pass", own, PASSES, shared, PASSES, 0);
        ciEnds(here, "a test under src/test/java fails", own, FAILS, shared, PASSES, 1);
        ciEnds(here, "a test under the shared tests fails", own, PASSES, shared, FAILS, 1);
        ciEnds(here, "a test does not compile", own, "class", shared, PASSES, 1);
        Files.writeString(here.resolve("src/main/java/AgesByMiles.java"), "public final class AgesByMiles {");
        ciEnds(here, "the class does not compile", own, PASSES, shared, PASSES, 1);
    }

    private static void ciEnds(Path here, String when, Path own, String ownTest, Path shared, String sharedTest,
        int code) throws IOException, InterruptedException {
        Files.writeString(own, String.format(ownTest, "OwnTest"));
        Files.writeString(shared, String.format(sharedTest, "SharedRuns"));
        due(CI + "'s exit code when " + when, run(here, "SHARED=other bash " + CI).code, code);
    }

    private static List<String> blocks(String readme, String language) {
        List<String> found = new ArrayList<>();
        Matcher block = Pattern.compile("(?s)```" + language + "\n(.*?)```").matcher(readme);
        while (block.find()) {
            found.add(block.group(1));
        }
        return found;
    }

    private static final class Ran {
        int code;
        String said;
    }

    /** Runs commands in a directory, to the first one that fails. */
    private static Ran run(Path here, String commands) throws IOException, InterruptedException {
        ProcessBuilder builder = new ProcessBuilder("sh", "-e", "-c", commands);
        Path said = here.resolve("said.txt");
        // What a machine adds of its own (a line about its options) goes to the errors, and is no answer.
        builder.directory(here.toFile());
        builder.redirectError(here.resolve("errors.txt").toFile());
        builder.redirectOutput(said.toFile());
        Ran ran = new Ran();
        ran.code = builder.start().waitFor();
        ran.said = Files.readString(said);
        return ran;
    }

    private static void copyTree(Path from, Path to) throws IOException {
        try (Stream<Path> all = Files.walk(from)) {
            for (Path path : (Iterable<Path>) all::iterator) {
                Path target = to.resolve(from.relativize(path).toString());
                if (Files.isDirectory(path)) {
                    Files.createDirectories(target);
                } else {
                    Files.copy(path, target, StandardCopyOption.COPY_ATTRIBUTES);
                }
            }
        }
    }

    private static void remove(Path tree) throws IOException {
        try (Stream<Path> all = Files.walk(tree)) {
            for (Path path : (Iterable<Path>) all.sorted(Comparator.reverseOrder())::iterator) {
                Files.delete(path);
            }
        }
    }
}
