import java.lang.reflect.Constructor;
import java.lang.reflect.Field;
import java.lang.reflect.Method;
import java.lang.reflect.Modifier;
import java.nio.charset.StandardCharsets;
import java.nio.file.Files;
import java.nio.file.Path;
import java.util.ArrayList;
import java.util.HashSet;
import java.util.List;
import java.util.Set;
import java.util.TreeSet;
import java.util.regex.Matcher;
import java.util.regex.Pattern;

/** What of LANGUAGE.md can be seen by looking: the face, the words that are ruled out, lengths and counts. */
public final class LanguageTest {
  private static int good = 0;
  private static int bad = 0;

  private static void wants(String what, boolean holds) {
    if (holds) {
      good++;
    } else {
      bad++;
      System.out.println("LANGUAGE: " + what);
    }
  }

  /** Arguments: the source and the document. */
  public static void main(String[] args) throws Exception {
    String source = Files.readString(Path.of(args[0]), StandardCharsets.ISO_8859_1);
    String doc = Files.readString(Path.of(args[1]), StandardCharsets.ISO_8859_1);
    List<Class<?>> classes = new ArrayList<>();
    classes.add(ChairCane.class);
    for (Class<?> c : ChairCane.class.getDeclaredClasses()) classes.add(c);
    face(doc);
    for (Class<?> c : classes) shape(c);
    wants("at most twelve classes", classes.size() <= 12);
    words(bare(source));
    lengths(source);
    System.out.println("LanguageTest: " + good + " passed, " + bad + " failed");
    if (bad != 0) System.exit(1);
  }

  private static void face(String doc) {
    Set<String> told = new TreeSet<>();
    Matcher m = Pattern.compile("    public int (\\w+)\\((.*)\\);").matcher(doc);
    while (m.find()) told.add(m.group(1) + " " + (m.group(2).isEmpty() ? 0 : m.group(2).split(",").length));
    Set<String> found = new TreeSet<>();
    Set<String> names = new HashSet<>();
    for (Method method : ChairCane.class.getDeclaredMethods()) {
      if (Modifier.isPublic(method.getModifiers())) {
        found.add(method.getName() + " " + method.getParameterCount());
        names.add(method.getName());
        wants(method + " answers an int of ints", method.getReturnType() == int.class);
        for (Class<?> p : method.getParameterTypes()) wants(method + " takes ints", p == int.class);
      } else {
        wants(method + " is private", Modifier.isPrivate(method.getModifiers()));
      }
    }
    wants("the face is the document's: " + told + " but " + found, told.equals(found) && told.size() == 34);
    for (Class<?> c : ChairCane.class.getDeclaredClasses()) {
      for (Method method : c.getDeclaredMethods()) wants(method + " bears a public one's name", !names.contains(method.getName()));
    }
    for (Method method : ChairCane.class.getDeclaredMethods()) {
      wants(method + " bears a public one's name", Modifier.isPublic(method.getModifiers()) || !names.contains(method.getName()));
    }
    for (Field field : ChairCane.class.getDeclaredFields()) {
      wants(field + " is private", field.getName().equals("NONE") || Modifier.isPrivate(field.getModifiers()));
    }
    wants("public and final", Modifier.isPublic(ChairCane.class.getModifiers()) && Modifier.isFinal(ChairCane.class.getModifiers()));
    wants("one constructor", ChairCane.class.getConstructors().length == 1);
  }

  private static void shape(Class<?> c) {
    int fields = 0;
    for (Field field : c.getDeclaredFields()) {
      if (Modifier.isStatic(field.getModifiers())) {
        wants(field + " is a final constant", Modifier.isFinal(field.getModifiers()) && field.getType() == int.class);
      } else {
        fields++;
      }
    }
    wants(c + " has at most twenty fields, not " + fields, fields <= 20);
    for (Method method : c.getDeclaredMethods()) wants(method + " takes at most seven", method.getParameterCount() <= 7);
    for (Constructor<?> made : c.getDeclaredConstructors()) wants(made + " takes at most seven", made.getParameterCount() <= 7);
    if (c != ChairCane.class) {
      wants(c + " is static", Modifier.isStatic(c.getModifiers()));
      wants(c + " is not public", !Modifier.isPublic(c.getModifiers()) && !Modifier.isProtected(c.getModifiers()));
    }
  }

  /** The source without comments and texts. */
  private static String bare(String source) {
    String s = source.replaceAll("(?s)/\\*.*?\\*/", " ").replaceAll("//[^\\n]*", " ");
    return s.replaceAll("\"[^\"\\n]*\"", "\"\"").replaceAll("'[^'\\n]'", "' '");
  }

  private static void words(String bare) {
    String[] out = {"throw", "throws", "try", "catch", "finally", "synchronized", "assert", "package", "native", "volatile",
      "double", "float", "Object", "Class", "Thread", "Random", "hashCode", "toString", "getClass", "interface"};
    for (String word : out) wants("no " + word, !Pattern.compile("\\b" + word + "\\b").matcher(bare).find());
    for (String sign : new String[] {"->", "::", "Exact(", "@"}) wants("no " + sign, !bare.contains(sign));
    Matcher imports = Pattern.compile("import ([\\w.*]+);").matcher(bare);
    while (imports.find()) wants("import " + imports.group(1), imports.group(1).matches("java\\.util\\.(Arrays|ArrayList|List)"));
    wants("no static block", !Pattern.compile("static\\s*\\{").matcher(bare).find());
    // all objects are made with the object itself
    int constructor = bare.indexOf("public ChairCane()");
    int calls = bare.indexOf("public int feed");
    Matcher made = Pattern.compile("\\bnew\\b").matcher(bare);
    while (made.find()) {
      int lineFrom = bare.lastIndexOf('\n', made.start()) + 1;
      String line = bare.substring(lineFrom, bare.indexOf('\n', made.start()));
      boolean field = line.trim().startsWith("final ") || line.trim().startsWith("private final ");
      wants("made in a call: " + line, field || made.start() > constructor && made.start() < calls);
    }
  }

  private static void lengths(String source) {
    String[] lines = source.split("\n");
    Pattern head = Pattern.compile("^( {2}| {4})(public|private|static|boolean|int|void|long)\\b.*\\(.*\\) \\{$");
    for (int k = 0; k < lines.length; k++) {
      wants("line " + (k + 1) + " is plain", lines[k].length() <= 125 && lines[k].chars().allMatch(c -> c >= 32 && c < 127));
      Matcher m = head.matcher(lines[k]);
      if (!m.matches()) continue;
      int to = k;
      while (!lines[to].equals(m.group(1) + "}")) to++;
      wants(lines[k].trim() + " has " + (to - k + 1) + " lines", to - k + 1 <= 60);
    }
  }
}
