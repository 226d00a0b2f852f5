import java.io.File;
import java.io.IOException;
import java.lang.reflect.Method;
import java.lang.reflect.Modifier;
import java.net.URL;
import java.net.URLClassLoader;
import java.nio.charset.StandardCharsets;
import java.nio.file.Files;
import java.nio.file.Path;
import java.util.Set;
import java.util.TreeSet;
import java.util.regex.Matcher;
import java.util.regex.Pattern;
import java.util.stream.Collectors;
import java.util.stream.Stream;
import javax.tools.ToolProvider;

/** README.md: its example answers what is written beside each call, and its table names the tests that there are. */
public final class ReadmeTest {
  private static final Pattern LINE = Pattern.compile("(?:(?:int|long) (\\w+) = )?(works\\.(\\w+)\\(.*\\));\\s+// ([^:]+): .+");
  private static final Pattern ROW = Pattern.compile("(?m)^\\| `(\\w+Test)` \\|");
  private static int wrong = 0;

  public static void main(String[] args) throws IOException, ReflectiveOperationException {
    String readme = Files.readString(Path.of("README.md"), StandardCharsets.UTF_8);
    checkExample(readme);
    checkTable(readme);
    System.out.println(wrong == 0 ? "README.md is as the class and its tests are" : wrong + " things are not so");
    if (wrong != 0) System.exit(1);
  }

  /** The example calls this. */
  public static void due(String line, long got, long want) {
    need(got == want, line + " -- it answered " + got);
  }

  private static void need(boolean right, String what) {
    if (right) return;
    wrong++;
    System.out.println("not so: " + what);
  }

  private static void checkExample(String readme) throws IOException, ReflectiveOperationException {
    Matcher block = Pattern.compile("(?s)```java\n(.*?)```").matcher(readme);
    boolean told = block.find();
    need(told, "README.md has an example");
    if (!told) return;
    Set<String> called = new TreeSet<>();
    StringBuilder body = new StringBuilder();
    for (String line : block.group(1).split("\n")) body.append(statement(line, called)).append('\n');
    for (Method method : OrreryWorks.class.getDeclaredMethods()) {
      String name = method.getName();
      need(!Modifier.isPublic(method.getModifiers()) || called.contains(name), "the example calls " + name);
    }
    run("public final class Example { public static void run() {\n" + body + "} }\n");
  }

  private static String statement(String line, Set<String> called) {
    if (line.isEmpty() || line.equals("OrreryWorks works = new OrreryWorks();")) return line;
    Matcher parts = LINE.matcher(line);
    if (!parts.matches()) {
      need(false, "this line tells what its call answers: " + line);
      return "";
    }
    called.add(parts.group(3));
    String quoted = '"' + line.replace("\\", "\\\\").replace("\"", "\\\"") + '"';
    String name = parts.group(1);
    String call = parts.group(2);
    String made = name == null ? "" : "var " + name + " = " + call + "; ";
    return made + "ReadmeTest.due(" + quoted + ", " + (name == null ? call : name) + ", " + parts.group(4) + ");";
  }

  private static void run(String source) throws IOException, ReflectiveOperationException {
    Path folder = Files.createTempDirectory("readme");
    Path file = folder.resolve("Example.java");
    try {
      Files.writeString(file, source, StandardCharsets.UTF_8);
      int exit = ToolProvider.getSystemJavaCompiler().run(null, null, null, "-encoding", "UTF-8", "-implicit:none",
          "-cp", System.getProperty("java.class.path"), "-d", folder.toString(), file.toString());
      need(exit == 0, "the example compiles");
      if (exit != 0) return;
      try (URLClassLoader loader = new URLClassLoader(new URL[] {folder.toUri().toURL()})) {
        loader.loadClass("Example").getMethod("run").invoke(null);
      }
    } finally {
      for (File left : folder.toFile().listFiles()) left.delete();
      folder.toFile().delete();
    }
  }

  private static void checkTable(String readme) throws IOException {
    Set<String> told = new TreeSet<>();
    for (Matcher row = ROW.matcher(readme); row.find();) told.add(row.group(1));
    try (Stream<Path> files = Files.list(Path.of("src/test/java"))) {
      Set<String> there = files.map(file -> file.getFileName().toString().replace(".java", ""))
          .collect(Collectors.toCollection(TreeSet::new));
      need(told.equals(there), "the table names " + there + ", not " + told);
    }
  }
}
