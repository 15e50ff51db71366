import java.io.File;
import java.io.IOException;
import java.lang.reflect.Method;
import java.lang.reflect.Modifier;
import java.nio.charset.StandardCharsets;
import java.nio.file.Files;
import java.nio.file.Path;

/** README.md names every method, and its program prints what stands there; run from the project's folder. */
public final class ReadmeTest {
    public static void main(String[] args) throws IOException, InterruptedException {
        String readme = Files.readString(Path.of("README.md"), StandardCharsets.UTF_8);
        namesEveryMethod(readme);
        Path folder = Files.createTempDirectory("readme");
        try {
            Path file = folder.resolve("Supper.java");
            Files.writeString(file, block(readme, "java"), StandardCharsets.UTF_8);
            String out = folder.toString();
            Script.same("javac", printed("javac", "-d", out, "src/main/java/SoupTable.java", file.toString()), "");
            Script.same("the program of README.md", printed("java", "-cp", out, "Supper"), block(readme, "text"));
        } finally {
            delete(folder.toFile());
        }
        Script.end();
    }

    private static void namesEveryMethod(String readme) {
        for (Method method : SoupTable.class.getDeclaredMethods()) {
            if (Modifier.isPublic(method.getModifiers())) {
                String name = method.getName();
                boolean isNamed = readme.contains("`" + name + "`") || readme.contains("`" + name + "(");
                Script.same("it names " + name, isNamed, true);
            }
        }
    }

    private static String block(String readme, String kind) {
        String start = "```" + kind + "\n";
        int from = readme.indexOf(start) + start.length();
        return readme.substring(from, readme.indexOf("```", from));
    }

    private static String printed(String... command) throws IOException, InterruptedException {
        Process process = new ProcessBuilder(command).redirectError(ProcessBuilder.Redirect.INHERIT).start();
        String text = new String(process.getInputStream().readAllBytes(), StandardCharsets.UTF_8);
        Script.same("the exit code of " + command[0], process.waitFor(), 0);
        return text;
    }

    private static void delete(File folder) {
        for (File file : folder.listFiles()) {
            file.delete();
        }
        folder.delete();
    }
}
