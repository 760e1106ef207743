import java.io.IOException;
import java.io.UncheckedIOException;
import java.nio.file.Files;
import java.nio.file.Path;
import java.util.ArrayList;
import java.util.LinkedHashMap;
import java.util.List;
import java.util.Map;
import java.util.TreeSet;
import java.util.function.Supplier;

/**
 * Checks that each stand under words of the document. of(..) names the section, says(..) the words, which must stand
 * in just one sentence of it; allSaid() tells which sentences nobody named.
 */
abstract class Edges extends Check {
    static final int MIN = Integer.MIN_VALUE;
    static final int MAX = Integer.MAX_VALUE;

    private static final Map<String, List<String>> SECTIONS = sections();
    private static final TreeSet<String> SAID = new TreeSet<>();
    private static String section = "";
    private static String sentence = "";
    private static int checks = 1;

    // The document

    private static Map<String, List<String>> sections() {
        Map<String, List<String>> all = new LinkedHashMap<>();
        try {
            for (String part : Files.readString(Path.of("../shared/DOC.md")).split("\n## ")) {
                int end = part.indexOf('\n');
                String title = part.substring(0, end).split(":")[0];
                all.put(title, sentencesOf(title, part.substring(end)));
            }
        } catch (IOException e) {
            throw new UncheckedIOException(e);
        }
        return all;
    }

    /** In a promise a paragraph or a line of a list is one, elsewhere each sentence. */
    private static List<String> sentencesOf(String title, String text) {
        List<String> all = new ArrayList<>();
        for (String block : text.strip().split("\n\n|\n(?=- )")) {
            String line = block.strip().replaceAll("\\s+", " ");
            if (title.startsWith("Promise")) {
                all.add(line.replaceFirst("^`[^`]*\\)[^`]*`: ", ""));
            } else {
                all.addAll(List.of(line.split("(?<=\\.) (?=[A-Z'])")));
            }
        }
        return all;
    }

    /** Titles, parameters without bounds, and what names no edge at all. */
    private static boolean needsNoTest(String words) {
        return words.isEmpty() || words.split(" ").length <= 2
            || words.startsWith("- ") && !words.matches(".*([0-9]|, or the same|, as bits|, of no meaning).*")
            || words.startsWith("Ahead of the calls") || words.equals("The class is not thread-safe.");
    }

    static void of(String title) {
        endSentence();
        section = title;
        sentence = "";
        same("a section of the document: " + title, true, SECTIONS.containsKey(title));
    }

    /** What is checked from here on would fail if these words of the section did not hold. */
    static void says(String words) {
        endSentence();
        int found = 0;
        sentence = words;
        for (String one : SECTIONS.getOrDefault(section, List.of())) {
            if (one.contains(words)) {
                SAID.add(section + ": " + one);
                found++;
            }
        }
        same(section + " has one sentence with: " + words, 1, found);
        checks = 0;
    }

    private static void endSentence() {
        isTrue(section + ", checked: " + sentence, checks > 0);
        checks = 1;
    }

    static void allSaid() {
        endSentence();
        for (Map.Entry<String, List<String>> entry : SECTIONS.entrySet()) {
            if (entry.getKey().startsWith("Promise") || entry.getKey().equals("Terms")) {
                for (String one : entry.getValue()) {
                    boolean isTested = SAID.contains(entry.getKey() + ": " + one);
                    isTrue(entry.getKey() + ", no test of: " + one, isTested || needsNoTest(one));
                }
            }
        }
    }

    // The checks

    private static String here() {
        checks++;
        String line = StackWalker.getInstance().walk(frames -> frames
            .filter(f -> !f.getClassName().equals("Edges")).map(f -> f.getFileName() + ":" + f.getLineNumber())
            .findFirst().orElse("?"));
        return line + ", " + section + ", \"" + sentence + "\"";
    }

    static void is(Object due, Object got) {
        same(here(), due, got);
    }

    static void yes(boolean got) {
        same(here(), true, got);
    }

    static void no(boolean got) {
        same(here(), false, got);
    }

    /** The call throws this, and changes nothing. */
    static void refuses(Class<? extends RuntimeException> due, Meshyard yard, Supplier<Object> call) {
        raises(here(), due, yard, call);
    }

    // Yards to begin with

    /** Adds instructions to a core, written as a letter and a number each, like "p5 p-2 +". */
    static void load(Meshyard yard, int node, String code) {
        for (String one : code.split(" ")) {
            yard.program(node, one.charAt(0), one.length() > 1 ? Integer.parseInt(one.substring(1)) : 0);
        }
    }

    /** A yard of 2 nodes whose core 0 was started with a program, and as many beats passed. */
    static Meshyard ran(String code, int beats) {
        Meshyard yard = yard(2, 1);
        load(yard, 0, code);
        yard.start(0);
        if (beats > 0) {
            yard.beats(beats);
        }
        return yard;
    }

    /** Core 0 of 2 was started, to wait for a message and then at the barrier, where core 1 holds it up. */
    static Meshyard toTheBarrier() {
        Meshyard yard = ran("r1 b h", 0);
        load(yard, 1, "r0 h");
        yard.start(1);
        return yard;
    }

    /** The core 0 of that yard gets its message, and is at the barrier. */
    static void goToTheBarrier(Meshyard yard) {
        yard.send(1, 0, 1, 1);
        yard.beats(6);
        is('b', yard.core(0));
    }

    /** The core 1 of that yard gets its message, so that both halt. */
    static void goBehindTheBarrier(Meshyard yard) {
        yard.send(0, 1, 1, 1);
        yard.beats(9);
        is('h', yard.core(0));
    }

    /** A yard of 3 by 2 nodes with something of everything on it. */
    static Meshyard busy() {
        Meshyard yard = yard(3, 2);
        yard.way('t');
        yard.places(3);
        for (int node : new int[] {0, 5, 2}) {
            yard.task(node);
        }
        yard.traffic(0, 1, 50);
        yard.traffic(0, 2, 7);
        yard.set(3, 1, 40);
        load(yard, 0, "r5 h");
        load(yard, 1, "p3 p4 p5 p6 p7 p8 h");
        load(yard, 2, "b p1 h");
        load(yard, 4, "+");
        for (int node : new int[] {0, 1, 2, 4}) {
            yard.start(node);
        }
        yard.send(0, 5, 7, 4);
        yard.ask(2, 3, 1, true, 4);
        yard.multicast(1, 63, 9);
        yard.beats(4);
        yard.fail(4, 'e', true);
        yard.send(3, 0, 1, 1);
        yard.beats(2);
        yard.receive(1, 1);
        yard.sleep(4);
        return yard;
    }

    /** Lets beats pass and puts a router to sleep ahead of each. */
    static void beatsAsleep(Meshyard yard, int node, int beats) {
        for (int i = 0; i < beats; i++) {
            yard.sleep(node);
            yard.beats(1);
        }
    }

    /** The nodes at which the head of a packet is, beat by beat, as digits of base 16. */
    static String path(Meshyard yard, int packet, int beats) {
        StringBuilder path = new StringBuilder();
        for (int i = 0; i < beats; i++) {
            yard.beats(1);
            path.append(Integer.toHexString(yard.head(packet)));
        }
        return path.toString();
    }
}
