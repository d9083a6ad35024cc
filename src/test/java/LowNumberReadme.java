import java.io.IOException;
import java.nio.file.DirectoryStream;
import java.nio.file.Files;
import java.nio.file.Path;
import java.util.Comparator;
import java.util.List;
import java.util.regex.Matcher;
import java.util.regex.Pattern;
import java.util.stream.Collectors;
import java.util.stream.Stream;
import javax.tools.ToolProvider;

/** What README.md says of the use of the class: its example, as it stands there, and its list of tests. */
public final class LowNumberReadme {
  private static final Pattern BLOCK = Pattern.compile("(?s)```java\n(.*?)```");
  private static final Pattern ANSWERED = Pattern.compile("(x\\.\\w+\\(.*?\\)); +// (-?\\d+|true|false)\\b.*");
  private static final Pattern CALL = Pattern.compile(" *x\\.\\w+\\(.*");
  private static final int FEWEST_ANSWERS = 10;

  private static int wrong = 0;

  public static void main(String[] args) throws Exception {
    String readme = Files.readString(Path.of("README.md"));
    example(readme);
    list(readme);
    System.out.println(wrong == 0 ? "README.md is true" : wrong + " things in README.md are not so");
    if (wrong != 0) System.exit(1);
  }

  private static void due(boolean holds, String what) {
    if (!holds) {
      wrong++;
      System.out.println(what);
    }
  }

  private static void example(String readme) throws Exception {
    Matcher block = BLOCK.matcher(readme);
    if (!block.find()) {
      due(false, "no example in README.md");
      return;
    }
    int answers = 0;
    StringBuilder body = new StringBuilder();
    for (String line : block.group(1).split("\n")) {
      Matcher m = ANSWERED.matcher(line);
      if (m.matches()) {
        answers++;
        body.append("due(\"").append(m.group(1)).append("\", String.valueOf(").append(m.group(1)).append("), \"")
            .append(m.group(2)).append("\");\n");
      } else {
        // an answer that isn't seen as one would be passed over without a word
        due(!CALL.matcher(line).matches() || !line.contains("//"), "a call whose answer can't be read: " + line);
        body.append(line).append('\n');
      }
    }
    due(answers >= FEWEST_ANSWERS, "the example tells " + answers + " answers only");
    runExample("public final class ReadmeExample {\n"
        + "static void due(String call, String got, String want) {\n"
        + "if (!got.equals(want)) throw new IllegalStateException(call + \" answered \" + got + \", README.md says \" + want);\n}\n"
        + "public static void main(String[] args) {\n" + body + "}\n}\n");
  }

  private static void runExample(String source) throws Exception {
    Path folder = Files.createTempDirectory("readme");
    try {
      Path file = folder.resolve("ReadmeExample.java");
      Files.writeString(file, source);
      String classes = System.getProperty("java.class.path");
      int compiled = ToolProvider.getSystemJavaCompiler().run(null, null, null,
          "--release", "17", "-cp", classes, "-d", folder.toString(), file.toString());
      due(compiled == 0, "the example doesn't compile");
      if (compiled == 0) {
        String java = Path.of(System.getProperty("java.home"), "bin", "java").toString();
        String both = classes + System.getProperty("path.separator") + folder;
        Process run = new ProcessBuilder(List.of(java, "-cp", both, "ReadmeExample")).inheritIO().start();
        due(run.waitFor() == 0, "the example doesn't answer as README.md says");
      }
    } finally {
      remove(folder);
    }
  }

  private static void remove(Path folder) throws IOException {
    List<Path> all;
    try (Stream<Path> walk = Files.walk(folder)) {
      all = walk.sorted(Comparator.reverseOrder()).collect(Collectors.toList());
    }
    for (Path p : all) Files.delete(p);
  }

  private static void list(String readme) throws IOException {
    due(readme.contains("`.ci/run`"), "README.md doesn't say how to run the tests");
    try (DirectoryStream<Path> tests = Files.newDirectoryStream(Path.of("src/test/java"), "*.java")) {
      for (Path test : tests) due(readme.contains("`src/test/java/" + test.getFileName() + "`"), "README.md doesn't name " + test);
    }
    Matcher m = Pattern.compile("`(src/test/java/\\w+\\.java)`").matcher(readme);
    while (m.find()) due(Files.exists(Path.of(m.group(1))), "README.md names " + m.group(1) + ", which isn't there");
  }
}
