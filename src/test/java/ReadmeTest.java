import java.io.IOException;
import java.lang.reflect.Method;
import java.lang.reflect.Modifier;
import java.nio.file.FileVisitResult;
import java.nio.file.Files;
import java.nio.file.Path;
import java.nio.file.SimpleFileVisitor;
import java.nio.file.attribute.BasicFileAttributes;
import java.util.ArrayList;
import java.util.Comparator;
import java.util.List;
import java.util.Set;
import java.util.TreeSet;
import java.util.regex.Matcher;
import java.util.regex.Pattern;
import java.util.stream.Stream;

/** What README.md says is done as it stands there, in a copy of the project. */
public final class ReadmeTest {
    private final Due due = new Due();
    private final String readme;

    private ReadmeTest() throws IOException {
        readme = Files.readString(Path.of("README.md"));
    }

    public static void main(String[] args) throws IOException, InterruptedException {
        ReadmeTest test = new ReadmeTest();
        test.namesEveryCall();
        test.namesEveryTest();
        Path room = Files.createTempDirectory("readme");
        try {
            copy(Path.of("src"), room.resolve("main/src"));
            copy(Path.of("../shared/tests"), room.resolve("shared/tests"));
            test.commands(room.resolve("main"));
        } finally {
            remove(room);
        }
        test.due.end();
    }

    /** With as many words in its brackets as the call has parameters, and no call that there is not. */
    private void namesEveryCall() {
        Set<String> told = new TreeSet<>();
        Matcher call = Pattern.compile("`(\\w+)\\(([^)]*)\\)`").matcher(readme);
        while (call.find()) {
            told.add(call.group(1) + "/" + (call.group(2).isEmpty() ? 0 : call.group(2).split(",").length));
        }
        Set<String> face = new TreeSet<>();
        for (Method m : IceTunes.class.getDeclaredMethods()) {
            if (Modifier.isPublic(m.getModifiers())) {
                face.add(m.getName() + "/" + m.getParameterCount());
            }
        }
        due.same("the calls of README.md", told.toString(), face.toString());
    }

    private void namesEveryTest() throws IOException {
        Set<String> told = new TreeSet<>();
        Matcher line = Pattern.compile("(?m)^- (`\\w+Test`(, )?)+:").matcher(readme);
        while (line.find()) {
            Matcher name = Pattern.compile("\\w+Test").matcher(line.group());
            while (name.find()) {
                told.add(name.group());
            }
        }
        Set<String> there = new TreeSet<>();
        try (Stream<Path> files = Files.list(Path.of("src/test/java"))) {
            files.map(f -> f.getFileName().toString()).filter(f -> f.endsWith("Test.java")).forEach(f -> there.add(f.replace(".java", "")));
        }
        due.same("the tests of README.md", told.toString(), there.toString());
    }

    private List<String> blocks(String kind) {
        List<String> blocks = new ArrayList<>();
        Matcher block = Pattern.compile("(?ms)^```" + kind + "\n(.*?)^```$").matcher(readme);
        while (block.find()) {
            blocks.add(block.group(1));
        }
        return blocks;
    }

    private void commands(Path project) throws IOException, InterruptedException {
        List<String> programs = blocks("java");
        List<String> commands = blocks("sh");
        due.is("programs", programs.size(), 1);
        due.is("blocks of commands", commands.size(), 4);
        Files.writeString(project.resolve("Example.java"), programs.get(0));
        for (String block : commands) {
            if (block.equals(".ci/run\n")) {
                // It runs this test: it is enough here that it can be started.
                due.is(".ci/run can be started", Files.isExecutable(Path.of(".ci/run")), true);
                continue;
            }
            String printed = run(block, project);
            if (block.contains("Example")) {
                due.same("Example", printed, answers(programs.get(0)));
            }
        }
    }

    /** What stands behind each show( .. ), ahead of the colon. */
    private static String answers(String program) {
        StringBuilder all = new StringBuilder();
        Matcher shown = Pattern.compile("(?m)^ *show\\(.*\\); +// (-?\\w+): .*$").matcher(program);
        while (shown.find()) {
            all.append(shown.group(1)).append('\n');
        }
        return all.toString();
    }

    private String run(String block, Path project) throws IOException, InterruptedException {
        Path printed = project.resolve("printed");
        Process process = new ProcessBuilder("bash", "-e", "-c", block).directory(project.toFile()).redirectErrorStream(true)
            .redirectOutput(printed.toFile()).start();
        int code = process.waitFor();
        String text = Files.readString(printed);
        due.is("exit code of:\n" + block + text, code, 0);
        return text;
    }

    private static void copy(Path from, Path to) throws IOException {
        Path real = from.toRealPath();
        Files.walkFileTree(real, new SimpleFileVisitor<>() {
            @Override
            public FileVisitResult preVisitDirectory(Path dir, BasicFileAttributes a) throws IOException {
                Files.createDirectories(to.resolve(real.relativize(dir).toString()));
                return FileVisitResult.CONTINUE;
            }

            @Override
            public FileVisitResult visitFile(Path file, BasicFileAttributes a) throws IOException {
                Files.copy(file, to.resolve(real.relativize(file).toString()));
                return FileVisitResult.CONTINUE;
            }
        });
    }

    private static void remove(Path room) throws IOException {
        List<Path> all;
        try (Stream<Path> files = Files.walk(room)) {
            all = files.sorted(Comparator.reverseOrder()).toList();
        }
        for (Path file : all) {
            Files.delete(file);
        }
    }
}
