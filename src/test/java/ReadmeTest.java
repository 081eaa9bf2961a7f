import java.io.IOException;
import java.nio.file.Files;
import java.nio.file.Path;
import java.util.ArrayList;
import java.util.List;

/** README.md tells every call, its example answers what it says, and wrong arguments do so too. */
public final class ReadmeTest {
    private static final Path README = Path.of("README.md");
    private static final Path SELF = Path.of("src/test/java/ReadmeTest.java");
    private static final int[] WRONG = {-1, 42, Integer.MIN_VALUE, Integer.MAX_VALUE};

    public static void main(String[] args) throws IOException {
        example();
        List<String> readme = Files.readAllLines(README);
        Due.same("the example in README.md", between(readme, "```java", "```"),
                between(Files.readAllLines(SELF), "// The example begins.", "// The example ends."));
        callsAreTold(readme);
        testsAreTold(readme);
        wrongArguments(new EpochSifter());
        wrongArguments(afterTheExample());
        Due.end();
    }

    private static void example() {
        // The example begins.
        EpochSifter sifter = new EpochSifter();

        // An observation: 21 bytes, at most four with each call; the last one makes the frame whole.
        sifter.put(0xD3000F3E, 4);
        sifter.put(0x904D0007, 4);
        sifter.put(0x89001000, 4);
        sifter.put(0x94680003, 4);
        sifter.put(0x25A0AD11, 4);
        int taken = sifter.put(0x2A, 1);            // 1
        int observations = sifter.count(6);         // 1
        int cells = sifter.epoch(2);                // 1, or -1 as long as no epoch is done
        int cell = sifter.cell(0);                  // 1052: system 1, satellite 5, signal 2
        double range = sifter.range(0);             // 2.1135370075902294E7
        int strength = sifter.strength(0);          // 45
        double mean = sifter.mean();                // 2.1135370075902294E7

        // A position: 25 bytes.
        int[] words = {0xB5620107, 0x11008813, 0x00000319, 0x543F1C80, 0x1EEDFAB9, 0x4A06000D};
        for (int word : words) {
            sifter.put(word, 4);
        }
        sifter.put(0x8D, 1);
        int fix = sifter.fix();                     // 3, or 0 as long as there was no position
        double latitude = sifter.place(0);          // 47.391234499999996
        int millimetres = sifter.raw(3);            // 412345

        // A frame that is not whole is kept until more comes, or until it is flushed.
        sifter.put(0xD300, 2);
        int gone = sifter.flush();                  // 2
        // The example ends.
        Due.same("taken", taken, 1);
        Due.same("observations", observations, 1);
        Due.same("cells", cells, 1);
        Due.same("cell", cell, 1052);
        Due.same("range", range, 2.1135370075902294E7);
        Due.same("strength", strength, 45);
        Due.same("mean", mean, 2.1135370075902294E7);
        Due.same("fix", fix, 3);
        Due.same("latitude", latitude, 47.391234499999996);
        Due.same("millimetres", millimetres, 412345);
        Due.same("gone", gone, 2);
    }

    private static String between(List<String> lines, String first, String last) {
        StringBuilder text = new StringBuilder();
        boolean inside = false;
        for (String line : lines) {
            if (inside && line.strip().equals(last)) {
                return text.toString();
            }
            if (inside) {
                text.append(line.strip()).append('\n');
            }
            inside = inside || line.strip().equals(first);
        }
        return "no text from " + first + " to " + last;
    }

    private static void callsAreTold(List<String> readme) {
        String[] calls = {"EpochSifter()", "int put(int word, int n)", "int count(int what)",
            "int epoch(int what)", "int cell(int k)", "double range(int k)", "int strength(int k)",
            "double mean()", "int fix()", "double place(int which)", "int raw(int which)",
            "int check(int c, int word, int n)", "int flush()"};
        for (String call : calls) {
            long rows = readme.stream().filter(line -> line.startsWith("| `" + call + "` |")).count();
            Due.same("rows for " + call, rows, 1);
        }
    }

    private static void testsAreTold(List<String> readme) throws IOException {
        String all = String.join("\n", readme);
        List<String> names = new ArrayList<>();
        try (var files = Files.list(SELF.getParent())) {
            files.forEach(file -> names.add(file.getFileName().toString().replace(".java", "")));
        }
        for (String name : names) {
            Due.same(name + " is told", all.contains("`" + name + "`") ? 1 : 0, 1);
        }
    }

    private static EpochSifter afterTheExample() {
        EpochSifter sifter = new EpochSifter();
        Frames.feed(sifter, Observing.of(123456, 77).block(4, 4).frame());
        Frames.feed(sifter, Frames.position(5000, 3, 473912345, -85123456, 412345));
        return sifter;
    }

    private static void wrongArguments(EpochSifter sifter) {
        String before = Asked.state(sifter);
        for (int wrong : WRONG) {
            Due.same("put", sifter.put(211, wrong), -1);
            Due.same("count", sifter.count(wrong), -1);
            Due.same("epoch", sifter.epoch(wrong), -1);
            Due.same("cell", sifter.cell(wrong), -1);
            Due.same("range", sifter.range(wrong), -1.0);
            Due.same("strength", sifter.strength(wrong), -1);
            Due.same("place", sifter.place(wrong), 0.0);
            Due.same("raw", sifter.raw(wrong), 0);
            Due.same("check", sifter.check(0, 211, wrong), -1);
        }
        Due.same("nothing is changed", Asked.state(sifter), before);
    }
}
