import java.io.IOException;
import java.lang.reflect.Method;
import java.nio.file.DirectoryStream;
import java.nio.file.Files;
import java.nio.file.Path;
import java.util.ArrayList;
import java.util.Arrays;
import java.util.List;
import java.util.regex.Matcher;
import java.util.regex.Pattern;

/** The calls that README.md shows answer what it says, and each test of the project is named there. */
public final class ReadmeTest {
  private static final Path README = Path.of("README.md");
  private static final Path TESTS = Path.of("src", "test", "java");
  private static final String MADE = "NumberedByAge street = new NumberedByAge();";
  private static final Pattern CALL = Pattern.compile("street\\.(\\w+)\\(([-0-9, ]*)\\); +// (-?\\d+)(:.*)?");
  private static final int LEAST_CALLS = 20;

  public static void main(String[] args) throws Exception {
    List<String> faults = new ArrayList<>();
    List<String> lines = Files.readAllLines(README);
    checkCalls(shownCode(lines), faults);
    checkNames(String.join("\n", lines), faults);
    faults.forEach(System.out::println);
    System.out.println(faults.isEmpty() ? "README.md holds" : "README.md does not hold");
    if (!faults.isEmpty()) {
      System.exit(1);
    }
  }

  private static List<String> shownCode(List<String> lines) {
    List<String> code = new ArrayList<>();
    boolean inside = false;
    for (String line : lines) {
      if (line.startsWith("```")) {
        inside = line.equals("```java");
      } else if (inside) {
        code.add(line);
      }
    }
    return code;
  }

  /** All the code is one run on one object, as somebody who reads on would have it. */
  private static void checkCalls(List<String> code, List<String> faults) throws Exception {
    if (code.size() <= LEAST_CALLS || !code.get(0).equals(MADE)) {
      faults.add("README.md does not show how an object is made, and its calls");
      return;
    }
    NumberedByAge street = new NumberedByAge();
    for (String line : code.subList(1, code.size())) {
      Matcher call = CALL.matcher(line);
      if (!call.matches()) {
        faults.add("this is no call with its answer: " + line);
      } else {
        Number answer = answerOf(street, call.group(1), call.group(2));
        if (answer.longValue() != Long.parseLong(call.group(3))) {
          faults.add("answered " + answer + ": " + line);
        }
      }
    }
  }

  private static Number answerOf(NumberedByAge street, String name, String told) throws Exception {
    Object[] numbers = told.isBlank()
        ? new Object[0]
        : Arrays.stream(told.split(", *")).map(Integer::valueOf).toArray();
    Class<?>[] types = new Class<?>[numbers.length];
    Arrays.fill(types, int.class);
    Method method = NumberedByAge.class.getMethod(name, types);
    return (Number) method.invoke(street, numbers);
  }

  private static void checkNames(String readme, List<String> faults) throws IOException {
    try (DirectoryStream<Path> tests = Files.newDirectoryStream(TESTS, "*.java")) {
      for (Path test : tests) {
        String name = test.getFileName().toString().replace(".java", "");
        if (!readme.contains("- `" + name + "`:")) {
          faults.add("README.md does not tell of " + name);
        }
      }
    }
    if (!readme.contains(".ci/run")) {
      faults.add("README.md does not tell how the tests are run");
    }
  }
}
