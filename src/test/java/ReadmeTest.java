import java.io.IOException;
import java.lang.reflect.Method;
import java.lang.reflect.Modifier;
import java.nio.ByteBuffer;
import java.nio.charset.StandardCharsets;
import java.nio.file.DirectoryStream;
import java.nio.file.Files;
import java.nio.file.Path;
import java.util.ArrayList;
import java.util.Arrays;
import java.util.List;
import java.util.regex.Matcher;
import java.util.regex.Pattern;

/** What README.md tells of the use and of the tests is true: its example is run line by line. */
public final class ReadmeTest {
  private static final Check CHECK = new Check();
  private static final Path TESTS = Path.of("src/test/java");
  private static final Pattern NEW = Pattern.compile("TruePiece x = new TruePiece\\(\\);");
  private static final Pattern TYPED = Pattern.compile("type\\(x, \"([^\"]*)\"\\);");
  private static final Pattern CALL = Pattern.compile("x\\.(\\w+)\\(([^)]*)\\); *// (-?\\w+): .+");
  private static TruePiece x = new TruePiece();

  public static void main(String[] args) throws IOException, ReflectiveOperationException {
    String readme = Files.readString(Path.of("README.md"));
    List<String> blocks = codeBlocks(readme);
    CHECK.due("pieces of code in README.md", blocks.size(), 2);
    String own = Files.readString(TESTS.resolve("ReadmeTest.java"));
    CHECK.due("its helper is the one below", own.contains(indented(blocks.get(0))), true);
    for (String line : blocks.get(1).split("\n")) {
      runLine(line);
    }
    namesAllCalls(readme);
    namesAllTests(readme);
    CHECK.finish("ReadmeTest");
  }

  static void type(TruePiece x, String text) {
    int before = x.about(5);
    byte[] bytes = text.getBytes(StandardCharsets.US_ASCII);
    ByteBuffer fours = ByteBuffer.wrap(Arrays.copyOf(bytes, (bytes.length + 19) / 20 * 20));
    while (fours.hasRemaining()) {
      x.feed(fours.getInt(), fours.getInt(), fours.getInt(), fours.getInt(), fours.getInt());
    }
    x.end(before + bytes.length);
  }

  private static List<String> codeBlocks(String readme) {
    List<String> blocks = new ArrayList<>();
    Matcher found = Pattern.compile("(?s)```java\n(.*?)```").matcher(readme);
    while (found.find()) {
      blocks.add(found.group(1));
    }
    return blocks;
  }

  private static String indented(String code) {
    return code.replaceAll("(?m)^(?=.)", "  ");
  }

  private static void runLine(String line) throws ReflectiveOperationException {
    Matcher typed = TYPED.matcher(line);
    Matcher call = CALL.matcher(line);
    if (NEW.matcher(line).matches()) {
      x = new TruePiece();
    } else if (typed.matches()) {
      type(x, typed.group(1));
    } else if (call.matches()) {
      CHECK.due(line, answer(call.group(1), call.group(2)), call.group(3));
    } else {
      CHECK.due("a line that can be run: " + line, false, true);
    }
  }

  private static String answer(String name, String told) throws ReflectiveOperationException {
    String[] words = told.isEmpty() ? new String[0] : told.split(", ");
    for (Method method : TruePiece.class.getDeclaredMethods()) {
      if (method.getName().equals(name) && method.getParameterCount() == words.length) {
        Object[] values = new Object[words.length];
        for (int i = 0; i < words.length; i++) {
          boolean number = method.getParameterTypes()[i] == int.class;
          values[i] = number ? (Object) Integer.valueOf(words[i]) : (Object) Boolean.valueOf(words[i]);
        }
        return String.valueOf(method.invoke(x, values));
      }
    }
    return "no call of that name";
  }

  private static void namesAllCalls(String readme) {
    for (Method method : TruePiece.class.getDeclaredMethods()) {
      if (Modifier.isPublic(method.getModifiers())) {
        String row = "| `" + method.getName() + "(";
        CHECK.due("README.md tells of " + method.getName(), readme.contains(row), true);
      }
    }
  }

  private static void namesAllTests(String readme) throws IOException {
    try (DirectoryStream<Path> files = Files.newDirectoryStream(TESTS, "*Test.java")) {
      for (Path file : files) {
        String name = file.getFileName().toString().replace(".java", "");
        CHECK.due("README.md tells of " + name, readme.contains("| `" + name + "` |"), true);
      }
    }
    CHECK.due("README.md tells of .ci/run", readme.contains("`.ci/run`"), true);
  }
}
