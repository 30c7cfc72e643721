import java.io.IOException;
import java.lang.reflect.InvocationTargetException;
import java.lang.reflect.Method;
import java.net.URL;
import java.net.URLClassLoader;
import java.nio.file.Files;
import java.nio.file.Path;
import java.util.ArrayList;
import java.util.List;
import java.util.Set;
import java.util.TreeSet;
import java.util.regex.Matcher;
import java.util.regex.Pattern;
import java.util.stream.Stream;
import javax.tools.ToolProvider;

/** README.md: what it shows of calls is so when its blocks are run, and it leaves out no call and no answer below 0. */
public final class ReadmeTest {
  private static final Pattern BLOCK = Pattern.compile("```java\n(.*?)```", Pattern.DOTALL);
  private static final Pattern SHOWN = Pattern.compile("(\\w+\\.(\\w+)\\([^()]*\\));\\s+// (-?\\d+)(?=[,: ]|$).*");
  private static final Pattern PREPARES = Pattern.compile(
      "WallsOfPrisoners \\w+ = new WallsOfPrisoners\\(\\);.*|for \\(char c : \"[^\"]*\"\\.toCharArray\\(\\)\\) \\w+\\.feed\\(c\\);");
  private static final Pattern FACE = Pattern.compile("public (?:int|long) (\\w+)\\((.*)\\);");
  private static final Pattern NAMED_FILE = Pattern.compile("\\S+/\\S+\\.(?:java|md)");
  private static final String[] BELOW_ZERO = {"-1 | `NONE`", "-2 | `BAD`", "-3 | `STATE`", "-4 | `FULL`", "-11 | ", "-12 | ", "-13 | ",
      "-14 | ", "-100 .. -260 | ", "-1000 | ", "-4611686018427387904 | `NO`"};

  private static final Checks CHECKS = new Checks();

  public static void main(String[] args) throws IOException, ReflectiveOperationException {
    String readme = Files.readString(Path.of("README.md"));
    Set<String> shown = new TreeSet<>();
    run(program(readme, shown));
    calls(readme, shown);
    for (String answer : BELOW_ZERO) CHECKS.holds("README tells of | " + answer, readme.contains("\n| " + answer));
    Matcher named = NAMED_FILE.matcher(readme.replace("`", " "));
    while (named.find()) CHECKS.holds(named.group() + " is there", Files.exists(Path.of(named.group())));
    CHECKS.end("ReadmeTest");
  }

  /** Each call that is shown with its answer becomes one that tells both; a line of any other form can't be held to it. */
  private static String program(String readme, Set<String> shown) {
    StringBuilder program = new StringBuilder("public final class Shown {\n  public static void run(java.util.List<Object[]> told) {\n");
    Matcher block = BLOCK.matcher(readme);
    while (block.find()) {
      for (String line : block.group(1).split("\n")) {
        Matcher call = SHOWN.matcher(line);
        if (call.matches()) {
          shown.add(call.group(2));
          program.append("told.add(new Object[] {\"").append(call.group(1)).append("\", (long) ").append(call.group(1))
              .append(", ").append(call.group(3)).append("L});\n");
        } else {
          CHECKS.holds("README shows what can be run: " + line, PREPARES.matcher(line).matches());
          if (line.contains(".feed(c)")) shown.add("feed");
          program.append(line).append("\n");
        }
      }
    }
    return program.append("  }\n}\n").toString();
  }

  private static void run(String program) throws IOException, ReflectiveOperationException {
    Path folder = Files.createTempDirectory("readme");
    Path file = Files.writeString(folder.resolve("Shown.java"), program);
    String beside = System.getProperty("java.class.path");
    int wrong = ToolProvider.getSystemJavaCompiler().run(null, null, null, "-cp", beside, "-d", folder.toString(), file.toString());
    CHECKS.due("README's blocks compile", wrong, 0);
    if (wrong == 0) {
      try (URLClassLoader loader = new URLClassLoader(new URL[] {folder.toUri().toURL()})) {
        tell(loader.loadClass("Shown").getMethod("run", List.class));
      }
    }
    remove(folder);
  }

  private static void tell(Method run) throws ReflectiveOperationException {
    List<Object[]> told = new ArrayList<>();
    try {
      run.invoke(null, told);
    } catch (InvocationTargetException e) {
      CHECKS.holds("README's blocks throw nothing, but " + e.getCause(), false);
    }
    for (Object[] t : told) CHECKS.due("README: " + t[0], (Long) t[1], (Long) t[2]);
    CHECKS.holds("README shows calls", told.size() > 33);
  }

  private static void remove(Path folder) throws IOException {
    List<Path> all;
    try (Stream<Path> files = Files.list(folder)) {
      all = files.toList();
    }
    for (Path file : all) Files.delete(file);
    Files.delete(folder);
  }

  /** Every call of the document's face is told of by its name and its numbers' names, and shown in a block. */
  private static void calls(String readme, Set<String> shown) throws IOException {
    Matcher face = FACE.matcher(Files.readString(Path.of("../shared/DOC.md")));
    int calls = 0;
    for (; face.find(); calls++) {
      String told = face.group(1) + "(" + face.group(2).replace("int ", "") + ")";
      CHECKS.holds("README tells of " + told, readme.contains("\n| `" + told + "` | "));
      CHECKS.holds("README shows " + told, shown.contains(face.group(1)));
    }
    CHECKS.due("calls of the document's face", calls, 33);
  }
}
