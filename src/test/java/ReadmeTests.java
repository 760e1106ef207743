import java.io.File;
import java.io.IOException;
import java.nio.file.Files;
import java.nio.file.Path;
import java.nio.file.StandardCopyOption;
import java.util.ArrayList;
import java.util.List;
import java.util.stream.Stream;

/** Does what README.md says, in a directory of its own that holds no more than a clean checkout. */
public final class ReadmeTests extends Check {
    private static final Path PAGE = Path.of("README.md");

    public static void main(String[] args) throws IOException, InterruptedException {
        String page = Files.readString(PAGE);
        Path place = Files.createTempDirectory("readme");
        try {
            copy(Path.of("src"), place.resolve("src"));
            theFirstProgram(page, place);
            theOtherCommands(page, place);
        } finally {
            remove(place);
        }
        theTests(page);
        end("ReadmeTests");
    }

    private static void theFirstProgram(String page, Path place) throws IOException, InterruptedException {
        Files.writeString(place.resolve("First.java"), blocks(page, "java").get(0));
        same("what First prints", blocks(page, "text").get(0) + "ended with 0", run(blocks(page, "sh").get(0), place));
    }

    /** But .ci/run itself, which runs this test. */
    private static void theOtherCommands(String page, Path place) throws IOException, InterruptedException {
        int done = 0;
        for (String block : blocks(page, "sh")) {
            if (block.equals(".ci/run\n")) {
                isTrue(".ci/run can be run", Files.isExecutable(Path.of(".ci/run")));
            } else {
                String told = run(block, place);
                same("the end of " + block, "ended with 0", told.substring(told.lastIndexOf('\n') + 1));
                done++;
            }
        }
        same("commands", 3, done);
    }

    /** Each test that .ci/run runs is named. */
    private static void theTests(String page) throws IOException {
        try (Stream<Path> files = Files.list(Path.of("src/test/java"))) {
            for (Path file : files.toList()) {
                String name = file.getFileName().toString().replace(".java", "");
                boolean isRun = name.endsWith("Tests") || name.endsWith("Runs");
                isTrue(name + " is named", !isRun || page.contains("`" + name + "`"));
            }
        }
    }

    private static List<String> blocks(String page, String kind) {
        List<String> all = new ArrayList<>();
        String fence = "```" + kind + "\n";
        for (int at = page.indexOf(fence); at >= 0; at = page.indexOf(fence, at + 1)) {
            int start = at + fence.length();
            all.add(page.substring(start, page.indexOf("```", start)));
        }
        return all;
    }

    private static String run(String commands, Path place) throws IOException, InterruptedException {
        Path told = place.resolve("told");
        Process process = new ProcessBuilder("sh", "-e", "-c", commands).directory(place.toFile())
            .redirectErrorStream(true).redirectOutput(told.toFile()).start();
        int end = process.waitFor();
        return Files.readString(told) + "ended with " + end;
    }

    private static void copy(Path from, Path to) throws IOException {
        try (Stream<Path> files = Files.walk(from)) {
            for (Path file : files.toList()) {
                Files.copy(file, to.resolve(from.relativize(file)), StandardCopyOption.REPLACE_EXISTING);
            }
        }
    }

    private static void remove(Path place) throws IOException {
        try (Stream<Path> files = Files.walk(place)) {
            files.map(Path::toFile).sorted((a, b) -> b.compareTo(a)).forEach(File::delete);
        }
    }
}
