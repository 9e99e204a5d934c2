import java.io.IOException;
import java.nio.charset.StandardCharsets;
import java.nio.file.Files;
import java.nio.file.Path;
import java.util.ArrayList;
import java.util.Comparator;
import java.util.List;
import java.util.regex.Matcher;
import java.util.regex.Pattern;
import java.util.stream.Stream;

/** README.md: its program compiles, and each line prints what stands behind it; its table names every test. */
public final class ReadmeTest {
  private static int wrong = 0;

  private static void due(String what, Object got, Object want) {
    if (!got.equals(want)) {
      wrong++;
      System.out.println(what + " is " + got + ", due is " + want);
    }
  }

  public static void main(String[] args) throws Exception {
    String readme = Files.readString(Path.of("README.md"), StandardCharsets.UTF_8);
    program(readme);
    table(readme);
    if (wrong != 0) {
      System.exit(1);
    }
  }

  private static void program(String readme) throws Exception {
    Matcher block = Pattern.compile("(?s)```java\n(.*?)```").matcher(readme);
    due("a program in README.md", block.find(), true);
    List<String> want = new ArrayList<>();
    Matcher comment = Pattern.compile("println\\(.*\\); // (.*)").matcher(block.group(1));
    while (comment.find()) {
      want.add(comment.group(1));
    }
    due("lines that print", want.size(), block.group(1).split("println\\(", -1).length - 1);
    Path folder = Files.createTempDirectory("readme");
    try {
      Files.writeString(folder.resolve("Example.java"), block.group(1));
      due("what it prints", printed(folder), want);
    } finally {
      remove(folder);
    }
  }

  private static List<String> printed(Path folder) throws Exception {
    run("javac", "-encoding", "UTF-8", "-d", folder.toString(),
        "src/main/java/PassedDark.java", folder.resolve("Example.java").toString());
    return run("java", "-cp", folder.toString(), "Example");
  }

  private static List<String> run(String... command) throws Exception {
    Process process = new ProcessBuilder(command)
        .redirectError(ProcessBuilder.Redirect.INHERIT).start();
    String text = new String(process.getInputStream().readAllBytes(), StandardCharsets.UTF_8);
    due("exit code of " + command[0], process.waitFor(), 0);
    return text.lines().toList();
  }

  private static void remove(Path folder) throws IOException {
    try (Stream<Path> paths = Files.walk(folder)) {
      for (Path path : paths.sorted(Comparator.reverseOrder()).toList()) {
        Files.delete(path);
      }
    }
  }

  private static void table(String readme) throws IOException {
    try (Stream<Path> tests = Files.list(Path.of("src/test/java"))) {
      for (Path test : tests.toList()) {
        String name = test.getFileName().toString().replace(".java", "");
        due("a row for " + name, readme.contains("| `" + name + "` |"), true);
      }
    }
  }
}
