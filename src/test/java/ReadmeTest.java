import java.io.ByteArrayOutputStream;
import java.io.File;
import java.io.IOException;
import java.nio.file.Files;
import java.nio.file.Path;
import java.util.ArrayList;
import java.util.List;
import java.util.regex.Matcher;
import java.util.regex.Pattern;

/** What README.md says is so: its program compiles, and prints what README.md prints; its list of tests is whole. */
final class ReadmeTest {
    private static final String SOURCE = "src/main/java/CoastRadar.java";
    private static final String TESTS = "src/test/java";

    public static void main(String[] args) throws IOException, InterruptedException {
        String readme = Files.readString(Path.of("README.md"));
        Path folder = Files.createTempDirectory("readme");
        try {
            theProgram(readme, folder);
        } finally {
            delete(folder.toFile());
        }
        eachTestIsTold(readme);
        Checks.end("ReadmeTest");
    }

    private static void theProgram(String readme, Path folder) throws IOException, InterruptedException {
        String program = block(readme, "java");
        String name = program.replaceAll("(?s).*?public final class (\\w+).*", "$1");
        Path file = folder.resolve(name + ".java");
        Files.writeString(file, program);
        Files.copy(Path.of(SOURCE), folder.resolve("CoastRadar.java"));
        String[] commands = block(readme, "sh").split("\n");
        Checks.equal("README.md: commands", commands.length, 2);
        Checks.text(commands[0], printed(folder, commands[0]), "");
        Checks.text(commands[1], printed(folder, commands[1]), block(readme, "text"));
    }

    /** The first block of a kind. */
    private static String block(String readme, String kind) {
        Matcher found = Pattern.compile("(?s)```" + kind + "\n(.*?)```").matcher(readme);
        return found.find() ? found.group(1) : "";
    }

    private static String printed(Path folder, String command) throws IOException, InterruptedException {
        Process process = new ProcessBuilder(command.trim().split(" +")).directory(folder.toFile())
            .redirectError(ProcessBuilder.Redirect.INHERIT).start();
        ByteArrayOutputStream all = new ByteArrayOutputStream();
        process.getInputStream().transferTo(all);
        Checks.equal(command + ": exit code", process.waitFor(), 0);
        return all.toString().replace("\r", "");
    }

    private static void delete(File file) {
        File[] inside = file.listFiles();
        if (inside != null) {
            for (File one : inside) {
                delete(one);
            }
        }
        file.delete();
    }

    private static void eachTestIsTold(String readme) {
        List<String> names = new ArrayList<>();
        for (String file : new File(TESTS).list()) {
            if (file.endsWith("Test.java")) {
                names.add(file.substring(0, file.length() - 5));
            }
        }
        Checks.isTrue("tests were found", names.size() > 10);
        for (String name : names) {
            Checks.isTrue("README.md tells of " + name, readme.contains("`" + name + "`"));
        }
        Matcher told = Pattern.compile("`(\\w+Test)`").matcher(readme);
        while (told.find()) {
            Checks.isTrue("README.md tells of " + told.group(1) + ", which is there", names.contains(told.group(1)));
        }
    }
}
