import java.util.ArrayList;
import java.util.List;

/** What the tests by hand share: texts told, answers compared, calls that may change nothing. */
abstract class Checks {
  static final int NONE = -1;
  static final int LEAST = Integer.MIN_VALUE;
  static final int GREATEST = Integer.MAX_VALUE;
  private static int asked = 0;
  private static int wrong = 0;
  private static String where = "";

  /** A call on an object, with all that it is asked with. */
  interface Call { int on(ThriceBridge t); }
  /** Makes an object and brings it where a test begins. */
  interface Start { ThriceBridge make(); }

  // ---- answers

  /** What the answers that follow are about: a promise, or a sentence of the document. */
  static void about(String words) { where = words; }

  static void due(String call, int got, int want) {
    asked++;
    if (got != want) { wrong++; System.out.println(where + ": " + call + " answered " + got + ", due is " + want); }
  }

  static void finish() {
    System.out.println((asked - wrong) + " answers are as due, " + wrong + " are not");
    if (wrong != 0) System.exit(1);
  }

  // ---- texts

  static String times(String part, int n) { return part.repeat(n); }
  static String padded(String text, int length) { return text + times(" ", length - text.length()); }

  static ThriceBridge feed(ThriceBridge t, String text) {
    int before = t.count(13);
    for (int i = 0; i < text.length(); i += 20) {
      int[] n = new int[5];
      for (int j = 0; j < 20; j++) n[j / 4] = n[j / 4] << 8 | (i + j < text.length() ? text.charAt(i + j) & 255 : 0);
      t.feed(n[0], n[1], n[2], n[3], n[4]);
    }
    t.end(before + text.length());
    return t;
  }

  static int town(ThriceBridge t, String text) { t.end(0); return feed(t, text).town(); }
  static int rule(ThriceBridge t, String text) { t.end(0); return feed(t, text).rule(); }

  static ThriceBridge in(String text) {
    ThriceBridge t = new ThriceBridge();
    int answer = town(t, text);
    if (answer < 0) due("town() of " + text, answer, 0);
    return t;
  }

  static int fault(int place, int kind) { return -2 - (1 + 8 * place + kind); }

  static void townFault(String text, int place, int kind) {
    ThriceBridge t = new ThriceBridge();
    due("town() of " + text, town(t, text), fault(place, kind));
    due("count(0) behind " + text, t.count(0), 0);
    due("count(13) behind " + text, t.count(13), 0);
  }

  static void ruleFault(String text, int place, int kind) {
    ThriceBridge t = new ThriceBridge();
    due("rule() of " + text, rule(t, text), fault(place, kind));
    due("count(6) behind " + text, t.count(6), 0);
    due("count(13) behind " + text, t.count(13), 0);
  }

  // ---- calls that change nothing

  /** The call answers so, and all that can be seen of the object stays as without it, now and later. */
  static void changesNothing(String call, Start start, Call made, int answer) {
    ThriceBridge t = start.make();
    due(call, made.on(t), answer);
    sameAs(call, start.make(), t);
  }

  /** Both objects answer alike from here on. */
  static void sameAs(String call, ThriceBridge wanted, ThriceBridge got) {
    List<Integer> want = story(wanted);
    List<Integer> is = story(got);
    due(call + ": how much is seen", is.size(), want.size());
    for (int i = 0; i < Math.min(is.size(), want.size()); i++) {
      if (!is.get(i).equals(want.get(i))) { due(call + ": what is seen, at " + i, is.get(i), want.get(i)); return; }
    }
  }

  /** All that is seen of an object now, when its acts are undone, by its rule, its image and its tape. */
  private static List<Integer> story(ThriceBridge t) {
    List<Integer> out = new ArrayList<>();
    look(t, out);
    for (int i = 0; i < 2 && t.count(11) > 0; i++) { out.add(t.undo()); look(t, out); }
    out.add(t.run(0, 2));
    look(t, out);
    out.add(t.back(1));
    look(t, out);
    out.add(t.town());
    look(t, out);
    return out;
  }

  private static void look(ThriceBridge t, List<Integer> out) {
    // An object may be called 512 times: a town of the tests should stay small enough for five looks.
    int bridges = t.count(2), people = t.count(4);
    for (int what = 0; what <= 13; what++) out.add(t.count(what));
    for (int b = 0; b < bridges; b++) out.add(t.bridge(b, 2));
    for (int p = 0; p < people; p++) {
      for (int what = 0; what <= 2; what++) out.add(t.person(p, what));
      for (int b = 0; b < bridges; b++) out.add(t.left(p, b));
      out.add(t.came(p, 0));
    }
  }
}
