import java.io.ByteArrayOutputStream;
import java.io.File;
import java.io.PrintStream;
import java.lang.reflect.Method;
import java.lang.reflect.Modifier;
import java.net.URL;
import java.net.URLClassLoader;
import java.nio.charset.StandardCharsets;
import java.nio.file.Files;
import java.nio.file.Path;
import java.util.regex.Matcher;
import java.util.regex.Pattern;
import javax.tools.JavaCompiler;
import javax.tools.ToolProvider;

/** The example of README.md must print what README.md says, and README.md must name each call and each test. */
public final class ReadmeTest {
  private static int good = 0;
  private static int bad = 0;

  private static void wants(String what, boolean holds) {
    if (holds) {
      good++;
    } else {
      bad++;
      System.out.println("README: " + what);
    }
  }

  /** Arguments: README.md, and where the tests lie. */
  public static void main(String[] args) throws Exception {
    String readme = Files.readString(Path.of(args[0]), StandardCharsets.UTF_8);
    String[] due = block(readme, "text").split("\n");
    String[] got = printed(block(readme, "java")).split("\n");
    wants("the example prints " + got.length + " lines, not " + due.length, got.length == due.length);
    for (int k = 0; k < due.length && k < got.length; k++) {
      wants("line " + (k + 1) + " is \"" + got[k] + "\", not \"" + due[k] + "\"", got[k].equals(due[k]));
    }
    for (Method method : ChairCane.class.getDeclaredMethods()) {
      boolean named = Pattern.compile("`" + method.getName() + "[`(]").matcher(readme).find();
      wants(method.getName() + " is not named", named || !Modifier.isPublic(method.getModifiers()));
    }
    for (File file : new File(args[1]).listFiles()) {
      String name = file.getName().replace(".java", "");
      wants(name + " is not named", readme.contains("`" + name + "`"));
    }
    System.out.println("ReadmeTest: " + good + " passed, " + bad + " failed");
    if (bad != 0) System.exit(1);
  }

  /** The one block of that kind. */
  private static String block(String readme, String kind) {
    Matcher m = Pattern.compile("(?s)\n```" + kind + "\n(.*?)```\n").matcher(readme);
    boolean found = m.find();
    wants("there is a block of " + kind, found);
    String block = found ? m.group(1) : "";
    wants("there are several blocks of " + kind, !m.find());
    return block;
  }

  private static String printed(String code) throws Exception {
    Path dir = Files.createTempDirectory("readme");
    Path source = dir.resolve("Example.java");
    Files.writeString(source, code);
    JavaCompiler compiler = ToolProvider.getSystemJavaCompiler();
    String classes = System.getProperty("java.class.path");
    int failed = compiler.run(null, null, null, "-cp", classes, "-d", dir.toString(), source.toString());
    wants("the example does not compile", failed == 0);
    String text = failed == 0 ? run(dir) : "";
    for (File file : dir.toFile().listFiles()) file.delete();
    dir.toFile().delete();
    return text;
  }

  private static String run(Path dir) throws Exception {
    ByteArrayOutputStream out = new ByteArrayOutputStream();
    PrintStream before = System.out;
    try (URLClassLoader loader = new URLClassLoader(new URL[] {dir.toUri().toURL()})) {
      System.setOut(new PrintStream(out, true));
      loader.loadClass("Example").getMethod("main", String[].class).invoke(null, (Object) new String[0]);
    } finally {
      System.setOut(before);
    }
    return out.toString().replace("\r\n", "\n");
  }
}
