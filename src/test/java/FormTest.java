import java.io.IOException;
import java.nio.file.Files;
import java.nio.file.Path;
import java.util.ArrayList;
import java.util.HashMap;
import java.util.HashSet;
import java.util.LinkedHashMap;
import java.util.List;
import java.util.Map;
import java.util.Set;
import java.util.TreeSet;
import java.util.regex.Matcher;
import java.util.regex.Pattern;

/**
 * The file keeps to what can be seen in its text of LANGUAGE.md's rules 1 to 13: it is looked at, and then copies
 * of it with a rule broken each, for a look that notices nothing is worth nothing.
 */
public final class FormTest {
  private static final Path SOURCE = Path.of("src", "main", "java", "NumberedByAge.java");
  private static final String OUTER = "NumberedByAge";

  private static final int MOST_LINES = 60;
  private static final int MOST_PARAMETERS = 7;
  private static final int MOST_CLASSES = 12;
  private static final int MOST_FIELDS = 20;
  private static final int DEEPEST = 8;

  private static final Set<String> IMPORTS = Set.of(
      "java.util.Arrays", "java.util.ArrayList", "java.util.List", "java.util.Iterator",
      "java.util.NoSuchElementException");
  private static final Set<String> EXCEPTIONS = Set.of(
      "IllegalStateException", "IllegalArgumentException", "IndexOutOfBoundsException", "ArithmeticException",
      "UnsupportedOperationException", "NoSuchElementException", "RuntimeException");
  private static final Set<String> TYPES = Set.of(
      "String", "StringBuilder", "Integer", "Long", "Math", "System", "Arrays", "ArrayList", "List", "Iterator",
      "Iterable", "Comparable");
  // Rule 4 lets in more of their like over int and long: whoever needs one adds it here.
  private static final Set<String> FUNCTIONS = Set.of(
      "System.arraycopy", "Arrays.copyOf", "Arrays.copyOfRange", "Arrays.fill", "List.of",
      "Math.max", "Math.min", "Math.abs", "Math.floorDiv", "Math.floorMod",
      "Integer.compare", "Integer.max", "Integer.min", "Integer.bitCount",
      "Long.compare", "Long.max", "Long.min", "Long.bitCount");
  /** What the machine throws by itself, and the classes above it: no catch may name them. */
  private static final Set<String> OF_THE_MACHINE = Set.of(
      "ArrayIndexOutOfBoundsException", "IndexOutOfBoundsException", "NullPointerException", "ArithmeticException",
      "ClassCastException", "NegativeArraySizeException", "ArrayStoreException", "RuntimeException", "Exception",
      "Throwable", "Error", "StackOverflowError", "OutOfMemoryError");
  private static final Pattern FORBIDDEN = Pattern.compile(
      "->|::|@|\\b(package|finally|synchronized|assert|native|volatile|transient|var|protected|goto"
          + "|getMessage)\\b|Exact\\s*\\(|while\\s*\\(\\s*true|;\\s*;|\"\"\\s*\\+|\\+\\s*\"\""
          + "|\\]\\s*\\[\\s*\\]\\s*\\[|\\bstatic\\s*\\{|\\btry\\s*\\(");
  private static final Pattern CONSTANT = Pattern.compile(
      "(?s)(private )?static final ((int|long|boolean|char|String)|(int|long|char|byte)\\[\\]) \\w+ =.*");
  private static final Set<String> NOT_OF_OBJECTS = Set.of("equals", "hashCode", "toString");

  private static final class Method {
    String owner;
    String name;
    String head;
    String body;
    int lines;

    boolean isConstructor() {
      return name.equals(owner);
    }
  }

  private static final class Type {
    String name;
    String head;
    String above;
    final List<String> fields = new ArrayList<>();
  }

  /** What a source text holds: its classes, their fields and methods. */
  private static final class Source {
    final String code;
    final Map<String, Type> types = new LinkedHashMap<>();
    final List<Method> methods = new ArrayList<>();

    Source(String text) {
      code = stripped(text);
      read();
    }

    private void read() {
      List<Object> open = new ArrayList<>();
      int start = 0;
      List<Integer> starts = new ArrayList<>();
      for (int i = 0; i < code.length(); i++) {
        char c = code.charAt(i);
        Object inside = open.isEmpty() ? null : open.get(open.size() - 1);
        if (c == '{') {
          String head = code.substring(start, i).strip();
          open.add(opened(head, inside));
          starts.add(i + 1);
          start = i + 1;
        } else if (c == '}') {
          int from = starts.remove(starts.size() - 1);
          if (open.remove(open.size() - 1) instanceof Method method) {
            method.body = code.substring(from, i);
            method.lines = (int) method.body.chars().filter(sign -> sign == '\n').count() + 1;
          }
          start = i + 1;
        } else if (c == ';') {
          String told = code.substring(start, i).strip();
          if (inside instanceof Type type && !told.isEmpty()) {
            type.fields.add(told);
          }
          start = i + 1;
        }
      }
    }

    private Object opened(String head, Object inside) {
      Matcher named = Pattern.compile("\\bclass\\s+(\\w+)(?:\\s+extends\\s+(\\w+))?").matcher(head);
      if (named.find()) {
        Type type = new Type();
        type.name = named.group(1);
        type.above = named.group(2);
        type.head = head;
        types.put(type.name, type);
        return type;
      }
      if (inside instanceof Type type && head.contains("=")) {
        type.fields.add(head);
        return "array";
      }
      Matcher called = Pattern.compile("(\\w+)\\s*\\(").matcher(head);
      if (inside instanceof Type type && called.find()) {
        Method method = new Method();
        method.owner = type.name;
        method.name = called.group(1);
        method.head = head;
        methods.add(method);
        return method;
      }
      return "block";
    }

    Method methodOf(String owner, String name) {
      for (Method method : methods) {
        if (method.owner.equals(owner) && method.name.equals(name)) {
          return method;
        }
      }
      return null;
    }
  }

  /** A text without what stands in its comments and literals. */
  private static String stripped(String text) {
    Pattern left = Pattern.compile("/\\*.*?\\*/|//[^\\n]*|\"(?:[^\"\\\\]|\\\\.)*\"|'(?:[^'\\\\]|\\\\.)*'",
        Pattern.DOTALL);
    return left.matcher(text).replaceAll(found -> {
      String what = found.group();
      return what.startsWith("\"") ? "\"\"" : what.startsWith("'") ? "0" : " ";
    });
  }

  private static List<String> faultsOf(String text) {
    List<String> faults = new ArrayList<>();
    if (text.chars().anyMatch(sign -> sign != '\n' && (sign < 32 || sign > 126))) {
      faults.add("rule 4: a sign that is none of ASCII's");
    }
    Source source = new Source(text);
    checkWords(source, faults);
    checkTypes(source, faults);
    checkMethods(source, faults);
    checkExceptions(source, faults);
    checkDepth(source, faults);
    return faults;
  }

  private static void checkWords(Source source, List<String> faults) {
    Matcher forbidden = FORBIDDEN.matcher(source.code);
    while (forbidden.find()) {
      faults.add("a word or sign that the rules leave out: " + forbidden.group());
    }
    Matcher imported = Pattern.compile("\\bimport\\s+([^;]+);").matcher(source.code);
    while (imported.find()) {
      if (!IMPORTS.contains(imported.group(1))) {
        faults.add("rule 4: import " + imported.group(1));
      }
    }
    Matcher named = Pattern.compile("\\b([A-Z]\\w*[a-z]\\w*)\\b(?:\\.(\\w+)\\s*\\()?").matcher(source.code);
    while (named.find()) {
      String name = named.group(1);
      if (!source.types.containsKey(name) && !TYPES.contains(name) && !EXCEPTIONS.contains(name)) {
        faults.add("rule 4: " + name);
      }
      if (named.group(2) != null && TYPES.contains(name) && !FUNCTIONS.contains(name + "." + named.group(2))) {
        faults.add("rule 4: " + name + "." + named.group(2));
      }
    }
  }

  private static void checkTypes(Source source, List<String> faults) {
    if (source.types.size() > MOST_CLASSES) {
      faults.add("rule 11: " + source.types.size() + " classes");
    }
    for (Type type : source.types.values()) {
      if (!type.name.equals(OUTER) && type.head.contains("public ")) {
        faults.add("rule 1: " + type.head);
      }
      int ofObjects = 0;
      for (String field : type.fields) {
        if (!field.matches("(?s)(private )?static .*")) {
          ofObjects++;
        } else if (!CONSTANT.matcher(field).matches()) {
          faults.add("rule 5: " + field);
        }
      }
      if (ofObjects > MOST_FIELDS) {
        faults.add("rule 11: " + type.name + " has " + ofObjects + " fields");
      }
    }
  }

  private static void checkMethods(Source source, List<String> faults) {
    for (Method method : source.methods) {
      String parameters = method.head.substring(method.head.indexOf('(') + 1, method.head.indexOf(')'));
      if (parameters.split(",").length > MOST_PARAMETERS) {
        faults.add("rule 11: parameters of " + method.name);
      }
      if (method.lines > MOST_LINES) {
        faults.add("rule 11: " + method.name + " has " + method.lines + " lines");
      }
      if (NOT_OF_OBJECTS.contains(method.name)) {
        faults.add("rule 6: " + method.owner + "." + method.name);
      }
    }
  }

  private static void checkExceptions(Source source, List<String> faults) {
    Set<String> thrown = new HashSet<>();
    for (Method method : source.methods) {
      Matcher thrower = Pattern.compile("\\bthrow\\b\\s*([^;]*);").matcher(method.body);
      boolean throwing = false;
      while (thrower.find()) {
        throwing = true;
        Matcher made = Pattern.compile("new (\\w+)\\((\"\")?\\)").matcher(thrower.group(1));
        if (!made.matches() || !EXCEPTIONS.contains(made.group(1))) {
          faults.add("rule 6: throw " + thrower.group(1));
        } else {
          thrown.add(made.group(1));
        }
      }
      boolean trying = Pattern.compile("\\btry\\b").matcher(method.body).find();
      if (throwing && (trying || method.isConstructor())) {
        faults.add("rule 6: a throw in " + method.name);
      }
    }
    Matcher caught = Pattern.compile("\\bcatch\\s*\\(([^)]*)\\s(\\w+)\\)\\s*\\{([^}]*)\\}").matcher(source.code);
    while (caught.find()) {
      for (String name : caught.group(1).split("\\|")) {
        if (OF_THE_MACHINE.contains(name.strip()) || !thrown.contains(name.strip())) {
          faults.add("a catch of what no throw here throws: " + name.strip());
        }
      }
      if (caught.group(3).contains(caught.group(2))) {
        faults.add("rule 6: a catch looks at its exception");
      }
    }
  }

  private static void checkDepth(Source source, List<String> faults) {
    Map<Method, Integer> known = new HashMap<>();
    for (Method method : source.methods) {
      int depth = depthOf(source, method, new ArrayList<>(), known, faults);
      if (depth > DEEPEST) {
        faults.add("rule 11: calls from " + method.owner + "." + method.name + " go " + depth + " deep");
      }
    }
  }

  private static int depthOf(
      Source source, Method method, List<Method> open, Map<Method, Integer> known, List<String> faults) {
    if (known.containsKey(method)) {
      return known.get(method);
    }
    if (open.contains(method)) {
      faults.add("rule 8: calls that come back to " + method.owner + "." + method.name);
      return 0;
    }
    open.add(method);
    int deepest = 0;
    for (Method called : calledBy(source, method)) {
      if (called != method) {
        deepest = Math.max(deepest, depthOf(source, called, open, known, faults));
      } else if (!method.head.startsWith("private static ")) {
        faults.add("rule 8: " + method.owner + "." + method.name + " calls itself");
      }
    }
    open.remove(method);
    known.put(method, deepest + 1);
    return deepest + 1;
  }

  /** All methods that a call may reach, whichever class its object has. */
  private static List<Method> calledBy(Source source, Method method) {
    List<Method> called = new ArrayList<>();
    Matcher call = Pattern.compile("(\\bnew\\s+|\\bsuper\\.|\\.|\\b)(\\w+)\\s*\\(").matcher(method.body);
    while (call.find()) {
      String how = call.group(1).strip();
      String name = call.group(2);
      if (how.equals("super.")) {
        called.add(inherited(source, source.types.get(method.owner).above, name));
      } else if (how.equals("new")) {
        called.add(source.methodOf(name, name));
      } else if (how.equals(".")) {
        source.methods.stream().filter(other -> other.name.equals(name)).forEach(called::add);
      } else {
        Method own = inherited(source, method.owner, name);
        called.add(own == null ? source.methodOf(OUTER, name) : own);
      }
    }
    called.removeIf(found -> found == null);
    return called;
  }

  private static Method inherited(Source source, String from, String name) {
    for (String owner = from; owner != null; owner = source.types.get(owner).above) {
      Method found = source.methodOf(owner, name);
      if (found != null) {
        return found;
      }
    }
    return null;
  }

  // ---- copies with a rule broken

  private static final String MARK = "  // ---- what is in range\n";

  private static void checkNoticed(String text, String what, String put, List<String> faults) {
    if (!text.contains(MARK)) {
      faults.add("the place for what breaks a rule is gone");
    } else if (faultsOf(text.replace(MARK, put + "\n" + MARK)).isEmpty()) {
      faults.add("not noticed: " + what);
    }
  }

  private static void checkAllNoticed(String text, List<String> faults) {
    String[][] breaks = {
      {"a lambda", "private final Comparable<Law> x = y -> 0;"},
      {"another library", "private static int f() { return Integer.parseInt(\"1\"); }"},
      {"another type", "private static int f() { return new Random().nextInt(); }"},
      {"a clock", "private static long f() { return System.nanoTime(); }"},
      {"a static state", "private static int state;"},
      {"an array of objects", "private static final Law[] ALL = {null};"},
      {"a class that is shown", "public static final class Open { }"},
      {"a text of an object of its own", "private static class Bad { String toString() { return null; } }"},
      {"joined texts", "private static String f(int x) { return \"a\" + x; }"},
      {"a loop without an end", "private static void f() { while (true) { f(1); } }"},
      {"a for without an end", "private static void f() { for (;;) { g(); } }"},
      {"another throw", "private static void f() { throw new Error(); }"},
      {"a throw of a kept one", "private static void f(IllegalStateException e) { throw e; }"},
      {"a catch of the machine's", "private static void f() { try { g(); } catch (NullPointerException e) { h(); } }"},
      {"a catch above it", "private static void f() { try { g(); } catch (RuntimeException e) { h(); } }"},
      {"a catch of what is not thrown",
        "private static void f() { try { g(); } catch (NoSuchElementException e) { h(); } }"},
      {"a look at what is caught",
        "private static void f() { try { g(); } catch (IllegalStateException e) { h(e); } }"},
      {"a try round a throw",
        "private static void f() { try { throw new ArithmeticException(); } catch (IllegalStateException e) { } }"},
      {"a finally", "private static void f() { try { g(); } finally { h(); } }"},
      {"a throw in a constructor", "private static class Bad { Bad() { throw new IllegalStateException(); } }"},
      {"eight parameters", "private static void f(int a, int b, int c, int d, int e, int g, int h, int i) { }"},
      {"a long method", "private static void f() {" + "\n g();".repeat(70) + "\n}"},
      {"many fields", "private int x; ".repeat(20)},
      {"a thirteenth class", "private static class More { } private static class Most { }"},
      {"calls that come back", "private static void f1() { f2(); } private static void f2() { f1(); }"},
      {"a method of an object that calls itself", "private void f1() { f1(); }"},
      {"deep calls", "private void f1() { f2(); } private void f2() { f3(); } private void f3() { orders(0); }"},
      {"a sign that is none of ASCII's", "// \u00e9"},
    };
    for (String[] one : breaks) {
      checkNoticed(text, one[0], "  " + one[1], faults);
    }
  }

  public static void main(String[] args) throws IOException {
    String text = Files.readString(SOURCE);
    List<String> faults = new ArrayList<>(new TreeSet<>(faultsOf(text)));
    checkAllNoticed(text, faults);
    if (new Source(text).methods.size() < 60 || new Source(text).types.size() < 2) {
      faults.add("the text can't be read");
    }
    faults.forEach(System.out::println);
    System.out.println(faults.isEmpty() ? "the form is as told" : "the form is not as told");
    if (!faults.isEmpty()) {
      System.exit(1);
    }
  }
}
