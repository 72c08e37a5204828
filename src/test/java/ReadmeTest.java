import java.io.IOException;
import java.nio.file.Files;
import java.nio.file.Path;
import java.util.ArrayList;
import java.util.Comparator;
import java.util.List;
import java.util.stream.Stream;

/** What README.md says of the use of the class and of its tests is so, tried on a copy of the sources. */
public final class ReadmeTest {
    private static final Checks CHECKS = new Checks("ReadmeTest");

    /** A block of README.md: java, sh or text. */
    private record Block(String kind, String text) {
    }

    private static List<Block> blocks(List<String> page) {
        List<Block> blocks = new ArrayList<>();
        StringBuilder text = new StringBuilder();
        String kind = null;
        for (String line : page) {
            if (!line.startsWith("```")) {
                text.append(kind == null ? "" : line + "\n");
            } else if (kind == null) {
                kind = line.substring(3);
            } else {
                blocks.add(new Block(kind, text.toString()));
                text.setLength(0);
                kind = null;
            }
        }
        return blocks;
    }

    private static void copy(Path from, Path to) throws IOException {
        try (Stream<Path> all = Files.walk(from)) {
            for (Path p : all.filter(Files::isRegularFile).toList()) {
                Path target = to.resolve(from.relativize(p).toString());
                Files.createDirectories(target.getParent());
                Files.write(target, Files.readAllBytes(p));
            }
        }
    }

    private static void remove(Path folder) throws IOException {
        try (Stream<Path> all = Files.walk(folder)) {
            for (Path p : all.sorted(Comparator.reverseOrder()).toList()) {
                Files.delete(p);
            }
        }
    }

    /** Gives commands to a shell: what they print. They must end well. */
    private static String run(String commands, Path folder) throws IOException, InterruptedException {
        Process shell = new ProcessBuilder("sh", "-ec", commands).directory(folder.toFile())
            .redirectErrorStream(true).start();
        String printed = new String(shell.getInputStream().readAllBytes());
        CHECKS.holds("these end well: " + commands + printed, shell.waitFor() == 0);
        return printed;
    }

    private static void tryBlocks(List<Block> blocks, Path folder) throws IOException, InterruptedException {
        int examples = 0;
        int commands = 0;
        for (int i = 0; i < blocks.size(); i++) {
            Block block = blocks.get(i);
            if (block.kind().equals("java")) {
                examples++;
                Files.writeString(folder.resolve("Example.java"), block.text());
            } else if (block.kind().equals("sh") && !block.text().equals(".ci/run\n")) {
                commands++;
                String printed = run(block.text(), folder);
                boolean isTold = i + 1 < blocks.size() && blocks.get(i + 1).kind().equals("text");
                CHECKS.holds("it prints what the page tells, not: " + printed,
                    !isTold || printed.equals(blocks.get(i + 1).text()));
            }
        }
        CHECKS.due("examples", examples, 1);
        CHECKS.due("blocks of commands", commands, 3);
    }

    /** Each test of the project is named on the page and run by .ci/run. */
    private static void dueNames(String page) throws IOException {
        Path script = Path.of(".ci/run");
        CHECKS.holds(".ci/run can be run", Files.isExecutable(script));
        String runs = Files.readString(script);
        try (Stream<Path> all = Files.list(Path.of("src/test/java"))) {
            for (Path p : all.toList()) {
                String name = p.getFileName().toString().replace(".java", "");
                boolean isTest = Files.readString(p).contains("public static void main(");
                CHECKS.holds(name + " is named on the page", !isTest || page.contains("`" + name + "`"));
                CHECKS.holds(name + " is run by .ci/run", !isTest || runs.contains(" " + name));
            }
        }
    }

    public static void main(String[] args) throws Exception {
        CHECKS.about("README.md");
        List<String> page = Files.readAllLines(Path.of("README.md"));
        Path folder = Files.createTempDirectory("readme");
        try {
            copy(Path.of("src"), folder.resolve("src"));
            tryBlocks(blocks(page), folder);
        } finally {
            remove(folder);
        }
        dueNames(String.join("\n", page));
        CHECKS.end();
    }
}
