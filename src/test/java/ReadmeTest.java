import java.lang.reflect.InvocationTargetException;
import java.net.URL;
import java.net.URLClassLoader;
import java.nio.file.Files;
import java.nio.file.Path;
import java.util.regex.Matcher;
import java.util.regex.Pattern;
import javax.tools.ToolProvider;

/** README.md's examples, as they stand there, compiled and tried: each call answers the number behind it. */
public final class ReadmeTest {
  private static final Pattern BLOCK = Pattern.compile("```java\n(.*?)```", Pattern.DOTALL);
  private static final Pattern ANSWERED = Pattern.compile("(x\\..*\\)); +// (-?\\d+)(:.*)?");
  private static int wrong = 0;
  private static int tried = 0;

  /** Called by the tried example. */
  public static void due(String call, long got, long want) {
    tried++;
    if (got != want) { wrong++; System.out.println("README.md: " + call + " answered " + got + ", it says " + want); }
  }

  private static String example(String readme) {
    StringBuilder text = new StringBuilder("public final class Example { public static void run() {\n");
    Matcher block = BLOCK.matcher(readme);
    while (block.find()) for (String line : block.group(1).split("\n")) {
      Matcher m = ANSWERED.matcher(line);
      if (m.matches()) text.append("ReadmeTest.due(\"" + m.group(1) + "\", " + m.group(1) + ", " + m.group(2) + "L);\n");
      else text.append(line).append("\n");
    }
    return text.append("} }\n").toString();
  }

  private static void run(Path folder, String text) throws Exception {
    Path source = folder.resolve("Example.java");
    Files.writeString(source, text);
    int failed = ToolProvider.getSystemJavaCompiler().run(null, null, null,
        "-cp", System.getProperty("java.class.path"), "-d", folder.toString(), source.toString());
    if (failed != 0) { wrong++; System.out.println("README.md's examples don't compile"); return; }
    try (URLClassLoader loader = new URLClassLoader(new URL[] {folder.toUri().toURL()})) {
      loader.loadClass("Example").getMethod("run").invoke(null);
    } catch (InvocationTargetException e) {
      wrong++;
      System.out.println("README.md's examples end with " + e.getCause());
    }
  }

  private static void namesEveryTest(String readme) throws Exception {
    try (var files = Files.newDirectoryStream(Path.of("src/test/java"), "*.java")) {
      for (Path file : files) {
        String name = file.getFileName().toString().replace(".java", "");
        if (!readme.contains("- `" + name + "`:")) { wrong++; System.out.println("README.md does not name " + name); }
      }
    }
  }

  public static void main(String[] args) throws Exception {
    String readme = Files.readString(Path.of("README.md"));
    Path folder = Files.createTempDirectory("readme");
    run(folder, example(readme));
    for (String name : new String[] {"Example.java", "Example.class"}) Files.deleteIfExists(folder.resolve(name));
    Files.deleteIfExists(folder);
    if (tried < 20) { wrong++; System.out.println("only " + tried + " answers of README.md were tried"); }
    namesEveryTest(readme);
    System.out.println(wrong == 0 ? "README.md is so" : wrong + " things in README.md are not so");
    if (wrong != 0) System.exit(1);
  }
}
