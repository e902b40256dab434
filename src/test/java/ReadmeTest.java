import java.io.IOException;
import java.lang.reflect.Modifier;
import java.net.URL;
import java.net.URLClassLoader;
import java.nio.file.Files;
import java.nio.file.Path;
import java.nio.file.Paths;
import java.util.ArrayList;
import java.util.Comparator;
import java.util.List;
import java.util.Set;
import java.util.TreeSet;
import java.util.regex.Matcher;
import java.util.regex.Pattern;
import java.util.stream.Stream;
import javax.tools.ToolProvider;

/**
 * README.md and the program are there; the calls that README.md shows answer as it says; the commands that it shows
 * work; and it names every call of the face.
 */
public final class ReadmeTest {
  private static final Path README = Paths.get("README.md");
  private static final Path PROGRAM = Paths.get("src/main/java/KeelHouse.java");
  private static final Pattern CALL = Pattern.compile("(?:int (\\w+) = )?(yard\\.\\w+\\(.*?\\));\\s+// (.+)");
  private static final String FIRST = "KeelHouse yard = new KeelHouse();";

  private final List<String> lines = new ArrayList<>();
  private final List<String> due = new ArrayList<>();
  private final StringBuilder body = new StringBuilder();

  public static void main(String[] args) throws Exception {
    for (Path path : List.of(README, PROGRAM)) {
      Check.same(path + " is there", true, Files.isRegularFile(path));
    }
    Path work = Files.createTempDirectory("readme");
    try {
      new ReadmeTest().calls(work);
      commands(work);
    } finally {
      delete(work);
    }
    face();
    paths();
    Check.end();
  }

  /** The lines of all blocks of a language, one behind the other. */
  private static List<String> blocks(String language) throws IOException {
    List<String> found = new ArrayList<>();
    String open = null;
    for (String line : Files.readAllLines(README)) {
      if (line.startsWith("```")) {
        open = open == null ? line.substring(3) : null;
      } else if (language.equals(open)) {
        found.add(line);
      }
    }
    return found;
  }

  /** Made into one program, so that what stands in README.md is compiled and run as it stands there. */
  private void calls(Path work) throws Exception {
    List<String> shown = blocks("java");
    Check.same("the first line shown", FIRST, shown.isEmpty() ? "" : shown.get(0));
    for (String line : shown.subList(Math.min(1, shown.size()), shown.size())) {
      Matcher call = CALL.matcher(line);
      boolean isCall = call.matches();
      Check.same("a call and its answer are in: " + line, true, isCall);
      if (isCall) {
        add(line, call);
      }
    }
    Check.same("calls shown", true, lines.size() > 50);
    List<?> told = run(work);
    for (int i = 0; i < lines.size(); i++) {
      Check.same(lines.get(i), due.get(i), String.valueOf(told.get(i)));
    }
  }

  private void add(String line, Matcher call) {
    String answer = call.group(3);
    int words = answer.indexOf(": ");
    lines.add(line);
    due.add(words < 0 ? answer : answer.substring(0, words));
    if (call.group(1) == null) {
      body.append("told.add(made(() -> ").append(call.group(2)).append("));\n");
    } else {
      body.append("int ").append(call.group(1)).append(" = ").append(call.group(2)).append(";\n");
      body.append("told.add(").append(call.group(1)).append(");\n");
    }
  }

  private List<?> run(Path work) throws Exception {
    String program = "import java.util.ArrayList;\nimport java.util.List;\n"
        + "public class ReadmeCalls {\n"
        + "  interface Call { Object make(); }\n"
        + "  static Object made(Call call) {\n"
        + "    try { return call.make(); }\n"
        + "    catch (RuntimeException e) { return \"throws \" + e.getClass().getSimpleName(); }\n"
        + "  }\n"
        + "  public static List<Object> told() {\n    List<Object> told = new ArrayList<>();\n    " + FIRST + "\n"
        + body + "    return told;\n  }\n}\n";
    Path file = work.resolve("ReadmeCalls.java");
    Files.writeString(file, program);
    int failed = ToolProvider.getSystemJavaCompiler().run(null, null, null, "-nowarn", "-d", work.toString(),
        "-cp", System.getProperty("java.class.path"), file.toString());
    Check.same("compiling what is shown", 0, failed);
    if (failed != 0) {
      Check.end();
    }
    try (URLClassLoader loader = new URLClassLoader(new URL[] {work.toUri().toURL()})) {
      return (List<?>) loader.loadClass("ReadmeCalls").getMethod("told").invoke(null);
    }
  }

  /** All of them but the run of all tests, which stands without such a block; what they write goes elsewhere. */
  private static void commands(Path work) throws IOException, InterruptedException {
    List<String> shown = blocks("sh");
    Check.same("commands shown", true, shown.size() > 2);
    for (String line : shown) {
      String command = line.replace("-d out ", "-d " + work + " ").replace("-cp out ", "-cp " + work + " ");
      Check.same("a command of javac or java is: " + line, true, line.startsWith("java"));
      Process process = new ProcessBuilder("sh", "-c", command).inheritIO().start();
      Check.same(line, 0, process.waitFor());
    }
    String text = Files.readString(README);
    Check.same("it tells how to run the tests", true, text.contains("\n    bash .ci/run\n"));
  }

  /** The table has each call of the face once. */
  private static void face() throws IOException {
    Set<String> due = new TreeSet<>();
    for (java.lang.reflect.Method method : KeelHouse.class.getDeclaredMethods()) {
      if (Modifier.isPublic(method.getModifiers())) {
        due.add(method.getName());
      }
    }
    List<String> named = new ArrayList<>();
    for (String line : Files.readAllLines(README)) {
      Matcher row = Pattern.compile("\\| \\d+ [^|]+\\|(.+)\\|").matcher(line);
      if (row.matches()) {
        Matcher name = Pattern.compile("`(\\w+)`").matcher(row.group(1));
        while (name.find()) {
          named.add(name.group(1));
        }
      }
    }
    Check.same("calls named in the table", due, new TreeSet<>(named));
    Check.same("each once", due.size(), named.size());
  }

  /** Files and directories that it names are there. */
  private static void paths() throws IOException {
    Matcher path = Pattern.compile("(?<![\\w/.])((?:\\.\\./shared|src|\\.ci)/[\\w/.]*\\w)").matcher(Files.readString(README));
    int many = 0;
    while (path.find()) {
      many++;
      Check.same(path.group(1) + " is there", true, Files.exists(Paths.get(path.group(1))));
    }
    Check.same("paths named", true, many > 8);
  }

  private static void delete(Path work) throws IOException {
    try (Stream<Path> all = Files.walk(work)) {
      for (Path path : all.sorted(Comparator.reverseOrder()).toArray(Path[]::new)) {
        Files.delete(path);
      }
    }
  }
}
