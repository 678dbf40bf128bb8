import java.nio.file.Files;
import java.nio.file.Path;
import java.util.Arrays;
import java.util.regex.Matcher;
import java.util.regex.Pattern;

/** The example in README.md: each of its calls answers what stands behind it. */
public final class ReadmeTest extends Checks {
  private static final String FIRST_LINE = "ThriceBridge t = new ThriceBridge();";
  private static final Pattern TOLD = Pattern.compile("tell\\(t, \"([^\"]*)\"\\);");
  private static final Pattern CALL = Pattern.compile("t\\.(\\w+)\\(([^)]*)\\); *// (-?\\d+)(: .*)?");

  public static void main(String[] args) throws Exception {
    String readme = Files.readString(Path.of(args.length > 0 ? args[0] : "README.md"));
    int from = readme.indexOf(FIRST_LINE);
    int to = readme.indexOf("```", from);
    about("README.md");
    due("where the example stands", from > 0 && to > from ? 1 : 0, 1);
    if (from > 0 && to > from) runLines(readme.substring(from + FIRST_LINE.length(), to).strip().split("\n"));
    finish();
  }

  private static void runLines(String[] lines) throws Exception {
    ThriceBridge t = new ThriceBridge();
    for (String line : lines) {
      Matcher told = TOLD.matcher(line);
      Matcher call = CALL.matcher(line);
      if (told.matches()) tell(t, told.group(1));
      else if (call.matches()) due(line, answer(t, call.group(1), call.group(2)), Integer.parseInt(call.group(3)));
      else due("a line that can't be run: " + line, 0, 1);
    }
  }

  /** As README.md has it. */
  static void tell(ThriceBridge t, String text) {
    t.end(0);
    for (int i = 0; i < text.length(); i += 20) {
      int[] n = new int[5];
      for (int j = 0; j < 20 && i + j < text.length(); j++) {
        n[j / 4] |= (text.charAt(i + j) & 255) << 24 - j % 4 * 8;
      }
      t.feed(n[0], n[1], n[2], n[3], n[4]);
    }
    t.end(text.length());
  }

  private static int answer(ThriceBridge t, String name, String numbers) throws Exception {
    Integer[] given = numbers.isEmpty() ? new Integer[0]
        : Arrays.stream(numbers.split(", ")).map(Integer::valueOf).toArray(Integer[]::new);
    Class<?>[] kinds = new Class<?>[given.length];
    Arrays.fill(kinds, int.class);
    return (Integer) ThriceBridge.class.getMethod(name, kinds).invoke(t, (Object[]) given);
  }
}
