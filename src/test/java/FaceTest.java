import java.lang.reflect.Constructor;
import java.lang.reflect.Field;
import java.lang.reflect.Method;
import java.lang.reflect.Modifier;
import java.nio.file.Files;
import java.nio.file.Path;
import java.util.Arrays;
import java.util.HashSet;
import java.util.List;
import java.util.Set;
import java.util.TreeSet;
import java.util.regex.Matcher;
import java.util.regex.Pattern;

/** The public face of the document, and the rules of LANGUAGE.md that can be seen from outside. */
public final class FaceTest {
  private static final List<String> FACE = List.of("feed 5", "end 1", "town 0", "rule 0", "person 2", "left 2", "bridge 2",
      "cross 2", "sail 2", "carry 3", "rebuild 1", "day 0", "undo 0", "run 2", "way 3", "life 3", "worth 3", "more 2",
      "meet 3", "best 1", "alone 0", "letter 3", "came 2", "trail 2", "seed 1", "lives 3", "count 1", "image 1", "back 1");
  private static int wrong = 0;

  public static void main(String[] args) throws Exception {
    face();
    classesInside();
    source(Files.readString(Path.of(args.length > 0 ? args[0] : "src/main/java/ThriceBridge.java")));
    System.out.println(wrong == 0 ? "the face is as due" : wrong + " things are not as due");
    if (wrong != 0) System.exit(1);
  }

  private static void must(boolean holds, String what) {
    if (!holds) { wrong++; System.out.println(what); }
  }

  private static void face() throws Exception {
    Class<?> c = ThriceBridge.class;
    must(Modifier.isPublic(c.getModifiers()) && Modifier.isFinal(c.getModifiers()), "the class is not public and final");
    Set<String> open = new TreeSet<>();
    for (Method m : c.getDeclaredMethods()) {
      if (Modifier.isPrivate(m.getModifiers())) continue;
      must(Modifier.isPublic(m.getModifiers()) && !Modifier.isStatic(m.getModifiers()), m + " is open");
      must(m.getReturnType() == int.class, m + " answers no int");
      must(Arrays.stream(m.getParameterTypes()).allMatch(t -> t == int.class), m + " takes no ints");
      open.add(m.getName() + " " + m.getParameterCount());
    }
    must(open.equals(new TreeSet<>(FACE)), "the methods are " + open);
    for (Field f : c.getDeclaredFields()) {
      must(Modifier.isPrivate(f.getModifiers()) || f.getName().equals("NONE"), f + " is open");
      must(!Modifier.isStatic(f.getModifiers()) || Modifier.isFinal(f.getModifiers()), f + " is static, not final");
    }
    must(c.getField("NONE").getInt(null) == -1, "NONE is not -1");
    Constructor<?>[] made = c.getDeclaredConstructors();
    must(made.length == 1 && made[0].getParameterCount() == 0 && Modifier.isPublic(made[0].getModifiers()), "the constructor");
  }

  private static void classesInside() {
    Set<String> names = new HashSet<>();
    for (String f : FACE) names.add(f.split(" ")[0]);
    Class<?>[] inside = ThriceBridge.class.getDeclaredClasses();
    must(inside.length <= 12, "too many classes");
    fewFields(ThriceBridge.class);
    for (Class<?> c : inside) {
      must(Modifier.isStatic(c.getModifiers()) && !Modifier.isPublic(c.getModifiers()), c + " is not static or is public");
      fewFields(c);
      for (Method m : c.getDeclaredMethods()) {
        must(!names.contains(m.getName()), m + " bears the name of a public one");
        must(m.getParameterCount() <= 7, m + " takes too many");
      }
    }
    for (Method m : ThriceBridge.class.getDeclaredMethods()) {
      if (Modifier.isPrivate(m.getModifiers())) must(!names.contains(m.getName()), m + " bears the name of a public one");
    }
  }

  private static void fewFields(Class<?> c) {
    int fields = 0;
    for (Field f : c.getDeclaredFields()) if (!Modifier.isStatic(f.getModifiers())) fields++;
    must(fields <= 20, c + " has " + fields + " fields");
  }

  private static void source(String text) {
    String bare = text.replaceAll("(?s)/\\*.*?\\*/", "").replaceAll("//[^\n]*", "").replaceAll("\"[^\"\n]*\"", "\"\"");
    Matcher words = Pattern.compile("\\b(throw|throws|try|catch|finally|synchronized|assert|volatile|native|protected|package|"
        + "double|float|Object|Random|Thread|hashCode|equals|toString)\\b|->|::").matcher(bare);
    while (words.find()) must(false, "the source says " + words.group());
    Matcher imports = Pattern.compile("import ([^;]+);").matcher(bare);
    while (imports.find()) must(imports.group(1).equals("java.util.Arrays"), "import " + imports.group(1));
    for (int i = 0; i < text.length(); i++) must(text.charAt(i) < 128, "a sign above 127 at " + i);
    methodLengths(text.split("\n"));
  }

  private static void methodLengths(String[] lines) {
    Pattern head = Pattern.compile("^( {4}| {8})(?!static final class|private static final class)\\S.*\\) \\{$");
    for (int i = 0; i < lines.length; i++) {
      Matcher m = head.matcher(lines[i]);
      if (!m.find()) continue;
      int end = i;
      while (end < lines.length && !lines[end].equals(m.group(1) + "}")) end++;
      must(end - i < 60, "a long method: " + lines[i].trim());
    }
  }
}
