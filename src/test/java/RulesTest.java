import java.io.IOException;
import java.lang.reflect.Field;
import java.lang.reflect.Method;
import java.lang.reflect.Modifier;
import java.nio.file.Files;
import java.nio.file.Path;
import java.util.HashSet;
import java.util.List;
import java.util.Set;
import java.util.regex.Pattern;

/** What of LANGUAGE.md can be seen from the source and the classes of the program. */
public final class RulesTest {
  private static final Path SOURCE = Path.of("src/main/java/ServoNet.java");
  private static final String[] NEVER = {"catch", "try", "finally", "synchronized", "assert", "instanceof", "record",
    "enum", "interface", "yield", "hashCode", "toString", "equals", "getMessage", "Thread", "Random", "volatile",
    "package", "protected", "double", "float", "native", "var"};
  private static final Pattern METHOD =
      Pattern.compile("^ {2,4}(private |public |static |final )*(void|boolean|int|long)(\\[\\])* \\w+\\(.*");

  public static void main(String[] args) throws IOException {
    List<String> lines = Files.readAllLines(SOURCE);
    words(lines);
    made(lines);
    lengths(lines);
    classes();
    Rig.end();
  }

  private static String code(String line) {
    String bare = line.replaceAll("\"[^\"]*\"", "\"\"");
    int comment = bare.indexOf("//");
    if (comment >= 0) {
      bare = bare.substring(0, comment);
    }
    return bare.trim().startsWith("/**") || bare.trim().startsWith("*") ? "" : bare;
  }

  private static void words(List<String> lines) {
    for (int i = 0; i < lines.size(); i++) {
      String code = code(lines.get(i));
      for (String word : NEVER) {
        Rig.isTrue("line " + (i + 1) + " has " + word, !Pattern.compile("\\b" + word + "\\b").matcher(code).find());
      }
      Rig.isTrue("line " + (i + 1) + " has a lambda or the like", !code.contains("->") && !code.contains("::"));
      Rig.isTrue("line " + (i + 1) + " calls the system", !code.contains("System.") || code.contains("System.arraycopy"));
      Rig.isTrue("line " + (i + 1) + " imports", !code.startsWith("import") || code.equals("import java.util.Arrays;"));
      Rig.isTrue("line " + (i + 1) + " is too long", lines.get(i).length() <= 120);
      for (int j = 0; j < lines.get(i).length(); j++) {
        Rig.isTrue("line " + (i + 1) + " has letters beyond 126", lines.get(i).charAt(j) < 127);
      }
    }
  }

  /** Objects are made where fields are told, in constructors, and to be thrown: no tick makes one. */
  private static void made(List<String> lines) {
    boolean inMethod = false;
    for (int i = 0; i < lines.size(); i++) {
      String code = code(lines.get(i));
      if (METHOD.matcher(code).matches()) {
        inMethod = true;
      } else if (code.matches("^ {2,4}\\}$")) {
        inMethod = false;
      }
      boolean makes = Pattern.compile("\\bnew\\b").matcher(code).find();
      Rig.isTrue("line " + (i + 1) + " makes an object", !makes || !inMethod || code.contains("throw new"));
    }
  }

  private static void lengths(List<String> lines) {
    int begin = -1;
    for (int i = 0; i < lines.size(); i++) {
      String code = code(lines.get(i));
      if (METHOD.matcher(code).matches()) {
        begin = i;
      } else if (begin >= 0 && code.matches("^ {2,4}\\}$")) {
        Rig.isTrue("the method of line " + (begin + 1) + " is too long", i - begin < 60);
        begin = -1;
      }
    }
  }

  private static void classes() {
    Set<String> face = new HashSet<>();
    for (Method m : ServoNet.class.getDeclaredMethods()) {
      if (Modifier.isPublic(m.getModifiers())) {
        face.add(m.getName());
      }
    }
    Class<?>[] inside = ServoNet.class.getDeclaredClasses();
    Rig.isTrue("classes inside: " + inside.length, inside.length <= 12);
    oneClass(ServoNet.class, face);
    for (Class<?> c : inside) {
      Rig.isTrue(c + " is static", Modifier.isStatic(c.getModifiers()));
      Rig.isTrue(c + " is not public", !Modifier.isPublic(c.getModifiers()));
      oneClass(c, face);
    }
  }

  private static void oneClass(Class<?> c, Set<String> face) {
    int fields = 0;
    for (Field f : c.getDeclaredFields()) {
      if (!Modifier.isStatic(f.getModifiers())) {
        fields++;
      } else {
        Rig.isTrue(f + " is final", Modifier.isFinal(f.getModifiers()));
      }
    }
    Rig.isTrue(c + " has " + fields + " fields", fields <= 22);
    for (Method m : c.getDeclaredMethods()) {
      Rig.isTrue(m + " has too many parameters", m.getParameterCount() <= 7);
      Rig.isTrue(m + " has a name of the face", Modifier.isPublic(m.getModifiers()) || !face.contains(m.getName()));
    }
  }
}
