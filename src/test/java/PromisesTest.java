import java.io.IOException;
import java.nio.file.DirectoryStream;
import java.nio.file.Files;
import java.nio.file.Path;
import java.nio.file.Paths;
import java.util.regex.Matcher;
import java.util.regex.Pattern;

/** Each promise of the document, and each section that tells what holds, has cases of its own in the tests of bounds. */
public final class PromisesTest {
  private static final Pattern CASE = Pattern.compile("static void (promise|section)(\\d+)[A-Z]\\w*\\(\\) \\{");

  public static void main(String[] args) throws IOException {
    int[] promises = new int[36];
    int[] sections = new int[11];
    try (DirectoryStream<Path> files = Files.newDirectoryStream(Paths.get("src/test/java"), "Bounds*Test.java")) {
      for (Path file : files) {
        Matcher found = CASE.matcher(Files.readString(file));
        while (found.find()) {
          int number = Integer.parseInt(found.group(2));
          (found.group(1).equals("promise") ? promises : sections)[number]++;
        }
      }
    }
    for (int promise = 1; promise < promises.length; promise++) {
      Check.same("cases of promise " + promise, true, promises[promise] > 0);
    }
    for (int section = 0; section < sections.length; section++) {
      Check.same("cases of section " + section, true, sections[section] > 0);
    }
    Check.end();
  }
}
