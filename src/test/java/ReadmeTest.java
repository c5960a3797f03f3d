import java.io.IOException;
import java.lang.reflect.Field;
import java.lang.reflect.Member;
import java.lang.reflect.Method;
import java.lang.reflect.Modifier;
import java.net.URL;
import java.net.URLClassLoader;
import java.nio.file.Files;
import java.nio.file.Path;
import java.util.ArrayList;
import java.util.Arrays;
import java.util.List;
import java.util.TreeSet;
import java.util.regex.Matcher;
import java.util.regex.Pattern;
import java.util.stream.Stream;
import javax.tools.ToolProvider;

/** That README.md is true: its examples answer what it says, and its tables name what there is. */
final class ReadmeTest {
  private static final Path README = Path.of("README.md");
  private static final Path TESTS = Path.of("src/test/java");
  /** A statement with one call, and the answer at the beginning of its comment. */
  private static final Pattern ANSWERED = Pattern.compile("(?:int (\\w+) = )?(district\\..*\\));\\s*// (-?\\w+)(?:: .*)?");
  private static final Pattern TABLE_TEST = Pattern.compile("^\\| `(\\w+Test)` \\|");
  private static final Pattern TABLE_CONSTANT = Pattern.compile("^\\| `([A-Z_]+)` \\| (-\\d+) \\|");

  private ReadmeTest() {
  }

  public static void main(String[] args) throws IOException, ReflectiveOperationException {
    List<String> lines = Files.readAllLines(README);
    examples(lines);
    names(String.join("\n", lines));
    constants(lines);
    tests(lines);
    Check.finish();
  }

  /** All examples of the page are one run of calls, since they go on with the same district. */
  private static void examples(List<String> lines) throws IOException, ReflectiveOperationException {
    StringBuilder body = new StringBuilder();
    List<String> calls = new ArrayList<>();
    List<Long> due = new ArrayList<>();
    for (String line : exampleLines(lines)) {
      Matcher answered = ANSWERED.matcher(line);
      if (!answered.matches()) {
        Check.holds(line + " has its answer where it can be checked", !line.contains("//"));
        body.append(line).append('\n');
        continue;
      }
      String name = answered.group(1);
      String seen = name == null ? answered.group(2) : name;
      if (name != null) body.append("int ").append(name).append(" = ").append(answered.group(2)).append(";\n");
      body.append("seen.add((long) ").append(seen).append(");\n");
      calls.add(answered.group(2));
      due.add(number(answered.group(3)));
    }
    Check.holds("there are examples with answers", calls.size() > 20);
    List<?> seen = answersOf(body.toString());
    Check.due("README: number of answers", seen.size(), due.size());
    for (int i = 0; i < Math.min(seen.size(), due.size()); i++) {
      Check.due("README: " + calls.get(i), (Long) seen.get(i), due.get(i));
    }
  }

  private static List<String> exampleLines(List<String> lines) {
    List<String> examples = new ArrayList<>();
    boolean inside = false;
    for (String line : lines) {
      boolean isEdge = line.startsWith("```");
      if (isEdge) inside = line.equals("```java");
      if (inside && !isEdge) examples.add(line);
    }
    return examples;
  }

  private static long number(String answer) throws ReflectiveOperationException {
    boolean isConstant = Character.isLetter(answer.charAt(0));
    return isConstant ? IrrigationDistrict.class.getField(answer).getInt(null) : Long.parseLong(answer);
  }

  private static List<?> answersOf(String body) throws IOException, ReflectiveOperationException {
    Path place = Files.createTempDirectory("readme");
    Path source = place.resolve("ReadmeExample.java");
    try {
      Files.writeString(source, "public final class ReadmeExample {\n"
          + "public static java.util.List<Long> answers() {\n"
          + "java.util.List<Long> seen = new java.util.ArrayList<>();\n" + body + "return seen;\n}\n}\n");
      String classes = System.getProperty("java.class.path");
      int failed = ToolProvider.getSystemJavaCompiler().run(null, null, null, "-cp", classes, "-d", place.toString(), source.toString());
      Check.due("compiling the examples", failed, 0);
      if (failed != 0) return List.of();
      try (URLClassLoader loader = new URLClassLoader(new URL[] {place.toUri().toURL()})) {
        return (List<?>) loader.loadClass("ReadmeExample").getMethod("answers").invoke(null);
      }
    } finally {
      Files.deleteIfExists(place.resolve("ReadmeExample.class"));
      Files.deleteIfExists(source);
      Files.deleteIfExists(place);
    }
  }

  private static void names(String page) {
    List<Member> face = new ArrayList<>(Arrays.asList(IrrigationDistrict.class.getDeclaredMethods()));
    face.addAll(Arrays.asList(IrrigationDistrict.class.getDeclaredFields()));
    for (Member member : face) {
      if (!Modifier.isPublic(member.getModifiers())) continue;
      String kind = member instanceof Method ? "call " : "constant ";
      Check.holds("README names the " + kind + member.getName(), page.contains("`" + member.getName() + "`"));
    }
  }

  private static void constants(List<String> lines) throws ReflectiveOperationException {
    int told = 0;
    for (String line : lines) {
      Matcher row = TABLE_CONSTANT.matcher(line);
      if (!row.find()) continue;
      Field constant = IrrigationDistrict.class.getField(row.group(1));
      Check.due("README: " + row.group(1), Long.parseLong(row.group(2)), constant.getInt(null));
      told++;
    }
    Check.due("README: constants with their values", told, 5);
  }

  private static void tests(List<String> lines) throws IOException {
    TreeSet<String> told = new TreeSet<>();
    for (String line : lines) {
      Matcher row = TABLE_TEST.matcher(line);
      if (row.find()) told.add(row.group(1));
    }
    TreeSet<String> there = new TreeSet<>();
    try (Stream<Path> files = Files.list(TESTS)) {
      files.map(file -> file.getFileName().toString()).filter(name -> name.endsWith("Test.java"))
          .forEach(name -> there.add(name.substring(0, name.length() - ".java".length())));
    }
    Check.holds("README tells of the tests " + there + ", and tells " + told, told.equals(there));
  }
}
