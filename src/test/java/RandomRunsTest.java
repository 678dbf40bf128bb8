import java.util.Random;

/** Random runs of calls, each answered by ThriceBridge and by PlainTown alike. */
public final class RandomRunsTest {
  private static final String[] TOWN_WORDS = {"town", "bridge", "ferry", "frost", "person", "crossed", "want", "towns", "if"};
  private static final String[] RULE_WORDS = {"person", "bridge", "from", "to", "home", "left", "day", "goal", "pay",
      "until", "nearer", "people"};
  private static final String[] SIGNS = {"<", "<=", "=", ">=", ">"};
  private final Random random;
  private final StringBuilder log = new StringBuilder();
  private ThriceBridge real;
  private PlainTown plain;
  private boolean wrong = false;
  private int calls = 0;

  private RandomRunsTest(long seed) { random = new Random(seed); }

  public static void main(String[] args) {
    int from = args.length > 0 ? Integer.parseInt(args[0]) : 0;
    int runs = args.length > 1 ? Integer.parseInt(args[1]) : 1500;
    int bad = 0;
    for (int i = from; i < from + runs && bad < 3; i++) {
      RandomRunsTest t = new RandomRunsTest(i);
      t.oneRun();
      if (t.wrong) { bad++; System.out.println("run " + i + ":\n" + t.log); }
    }
    if (bad > 0) System.exit(1);
    System.out.println(runs + " random runs are as due");
  }

  private int below(int n) { return random.nextInt(n); }
  private boolean often(int percent) { return below(100) < percent; }

  private void due(String call, int got, int want) {
    calls++;
    if (wrong) return;
    log.append(call).append(" = ").append(got).append('\n');
    if (got != want) { wrong = true; log.append("  but due is ").append(want).append('\n'); }
  }

  private void oneRun() {
    real = new ThriceBridge();
    plain = new PlainTown();
    if (often(90)) tellTown();
    int rounds = 20 + below(60);
    for (int i = 0; i < rounds && !wrong && calls < 480; i++) {
      int kind = below(100);
      if (kind < 4) tellTown();
      else if (kind < 14) tellRule();
      else if (kind < 60) act();
      else ask();
    }
    if (!wrong) everything();
  }

  // ---- texts

  private void tell(String text) {
    byte[] bytes = new byte[Math.min(400, text.length())];
    for (int i = 0; i < bytes.length; i++) bytes[i] = (byte) text.charAt(i);
    log.append("# ").append(text).append('\n');
    // Often what stands on the tape stays, as a text behind a fault must begin on an empty one.
    if (often(30)) due("end(0)", real.end(0), plain.end(0));
    for (int i = 0; i < bytes.length; i += 20) {
      int[] n = new int[5];
      for (int j = 0; j < 20; j++) n[j / 4] = n[j / 4] << 8 | (i + j < bytes.length ? bytes[i + j] & 255 : 0);
      due("feed", real.feed(n[0], n[1], n[2], n[3], n[4]), plain.feed(n[0], n[1], n[2], n[3], n[4]));
    }
    due("end", real.end(bytes.length), plain.end(bytes.length));
  }

  private String spoilt(String text) {
    if (!often(30) || text.isEmpty()) return text;
    StringBuilder b = new StringBuilder(text);
    for (int i = 1 + below(2); i > 0 && b.length() > 0; i--) {
      int at = below(b.length());
      String some = " ;[]<>=+-*/%0123456789abnortif";
      char c = often(80) ? some.charAt(below(some.length())) : (char) below(256);
      switch (below(4)) {
        case 0: b.setCharAt(at, c); break;
        case 1: b.insert(at, c); break;
        case 2: b.deleteCharAt(at); break;
        default: b.setLength(at); break;
      }
    }
    return b.toString();
  }

  private String gap() { return often(80) ? " " : often(50) ? "  " : " "; }

  private void tellTown() {
    int quarters = often(70) ? 2 + below(4) : 2 + below(7);
    int times = 1 + below(often(50) ? 2 : 5);
    StringBuilder b = new StringBuilder("town" + gap() + quarters + gap() + times);
    int bridges = below(10), people = often(90) ? 1 + below(4) : below(5);
    for (int i = 0; i < bridges; i++) pair(b, "bridge", quarters);
    for (int i = below(4); i > 0; i--) pair(b, "ferry", quarters);
    for (int i = below(3); i > 0; i--) { int f = below(9); b.append(";frost ").append(f).append(' ').append(f + below(4)); }
    for (int i = 0; i < people; i++) b.append(";person ").append(below(quarters));
    if (people > 0) {
      for (int i = below(5); i > 0 && bridges > 0; i--)
        b.append(";crossed ").append(below(people)).append(' ').append(below(bridges)).append(' ').append(below(times + 1));
      for (int i = below(9); i > 0; i--)
        b.append(";want").append(gap()).append(below(people)).append(' ').append(below(quarters)).append(' ')
            .append(below(often(90) ? 9 : 100)).append(' ').append(1 + below(50));
    }
    if (often(8)) b.append(';').append(TOWN_WORDS[below(TOWN_WORDS.length)]).append(' ').append(below(9)).append(' ').append(below(101));
    if (often(4)) for (int i = 0; i < 6; i++) b.append(";person 0");
    String text = b.toString();
    if (text.length() > 400) text = text.substring(0, text.lastIndexOf(';', 400));
    tell(spoilt(text));
    due("town()", real.town(), plain.town());
    due("count(13)", real.count(13), plain.count(13));
  }

  private void pair(StringBuilder b, String word, int quarters) {
    int one = below(quarters);
    int two = often(98) ? (one + 1 + below(quarters - 1)) % quarters : one;
    b.append(';').append(word).append(' ').append(one).append(gap()).append(two);
  }

  private String value() {
    return often(60) ? RULE_WORDS[below(RULE_WORDS.length)] : "" + below(often(90) ? 10 : often(90) ? 100000 : 1000000);
  }
  private String sum() {
    StringBuilder b = new StringBuilder(value());
    while (often(40)) b.append(gap()).append("+-*/%".charAt(below(5))).append(gap()).append(value());
    return b.toString();
  }
  private String fact(int depth) {
    if (depth < 14 && often(25)) return "not " + fact(depth + 1);
    if (depth < 14 && often(25)) return "[" + gap() + test(depth + 1) + "]";
    return sum() + gap() + SIGNS[below(5)] + sum();
  }
  private String test(int depth) {
    StringBuilder b = new StringBuilder(fact(depth));
    while (often(35)) b.append(often(50) ? " and " : " or ").append(fact(depth));
    return b.toString();
  }
  private void tellRule() {
    StringBuilder b = new StringBuilder();
    int clauses = often(90) ? 1 + below(4) : 10 + below(5);
    for (int i = 0; i < clauses; i++) {
      if (i > 0) b.append(often(50) ? ";" : " ; ");
      b.append("cross ").append(sum());
      if (often(60)) b.append(" if ").append(test(0));
    }
    if (often(5)) { b.setLength(0); b.append("cross 1 if "); for (int i = 0; i < 12; i++) b.append(often(50) ? "not " : "["); }
    if (often(5)) { b.setLength(0); b.append("cross 1"); for (int i = 0; i < 61; i++) b.append(often(98) ? "+1" : "+1if 1<1+1"); }
    if (often(5)) { b.setLength(0); b.append("cross 1 if 1"); for (int i = 0; i < 40; i++) b.append("<1 or 1"); }
    String text = b.toString();
    if (text.length() > 400) text = text.substring(0, 400);
    tell(spoilt(text));
    due("rule()", real.rule(), plain.rule());
    due("count(13)", real.count(13), plain.count(13));
  }

  // ---- calls

  private int one(int n) { return often(97) ? below(Math.max(1, n)) : often(50) ? -1 - below(3) : n + below(3); }
  private int someone() { return one(plain.people()); }
  private int some() { return one(plain.bridges()); }

  private void act() {
    int p = someone(), a = someone(), b = some(), k = below(4), n = below(100);
    if (n < 45) {
      for (int i = 0; i < 12 && !(plain.isPerson(p) && plain.isBridge(b) && plain.can(p, b)); i++) { p = someone(); b = some(); }
      due("cross(" + p + ", " + b + ")", real.cross(p, b), plain.cross(p, b));
    } else if (n < 55) { int f = below(5) - 1; due("sail(" + p + ", " + f + ")", real.sail(p, f), plain.sail(p, f)); }
    else if (n < 63) due("carry(" + p + ", " + a + ", " + b + ")", real.carry(p, a, b), plain.carry(p, a, b));
    else if (n < 69) due("rebuild(" + b + ")", real.rebuild(b), plain.rebuild(b));
    else if (n < 79) due("day()", real.day(), plain.day());
    else if (n < 87) due("undo()", real.undo(), plain.undo());
    else if (n < 90) due("image(" + k + ")", real.image(k), plain.image(k));
    else if (n < 92) due("back(" + k + ")", real.back(k), plain.back(k));
    else if (n < 95) { int s = random.nextInt(); due("seed(" + s + ")", real.seed(s), plain.seed(s)); }
    else {
      int r = one(plain.rules.size()), days = often(90) ? 1 + below(4) : below(70) - 4;
      due("run(" + r + ", " + days + ")", real.run(r, days), plain.run(r, days));
    }
  }

  private void ask() {
    int p = someone(), o = someone(), b = some(), w = below(9) - 1, n = often(93) ? 1 + below(5) : below(8);
    switch (below(15)) {
      case 0: due("person(" + p + ", " + w + ")", real.person(p, w), plain.person(p, w)); break;
      case 1: due("left(" + p + ", " + b + ")", real.left(p, b), plain.left(p, b)); break;
      case 2: due("bridge(" + b + ", " + w + ")", real.bridge(b, w), plain.bridge(b, w)); break;
      case 3: { int q = one(8); due("way(" + p + ", " + q + ", " + w % 3 + ")", real.way(p, q, w % 3), plain.way(p, q, w % 3)); break; }
      case 4: case 5: due("life(" + p + ", " + n + ", " + w + ")", real.life(p, n, w), plain.life(p, n, w)); break;
      case 6: due("worth(" + p + ", " + b + ", " + n + ")", real.worth(p, b, n), plain.worth(p, b, n)); break;
      case 7: due("more(" + p + ", " + n + ")", real.more(p, n), plain.more(p, n)); break;
      case 8: due("meet(" + p + ", " + o + ", " + w % 3 + ")", real.meet(p, o, w % 3), plain.meet(p, o, w % 3)); break;
      case 9: due("best(" + w % 4 + ")", real.best(w % 4), plain.best(w % 4)); break;
      case 10: due("alone()", real.alone(), plain.alone()); break;
      case 11: due("letter(" + p + ", " + o + ", " + w % 4 + ")", real.letter(p, o, w % 4), plain.letter(p, o, w % 4)); break;
      case 12: due("came(" + p + ", " + w % 4 + ")", real.came(p, w % 4), plain.came(p, w % 4)); break;
      case 13: due("trail(" + p + ", " + w % 3 + ")", real.trail(p, w % 3), plain.trail(p, w % 3)); break;
      default: {
        int m = below(12), d = often(80) ? 1 + below(20) : below(63);
        due("lives(" + m + ", " + d + ", " + w % 3 + ")", real.lives(m, d, w % 3), plain.lives(m, d, w % 3));
      }
    }
  }

  /** At the end of a run every question is asked once, as it stands. */
  private void everything() {
    for (int w = -1; w <= 14; w++) due("count(" + w + ")", real.count(w), plain.count(w));
    due("alone()", real.alone(), plain.alone());
    for (int w = 0; w < 3; w++) due("best(" + w + ")", real.best(w), plain.best(w));
    for (int p = 0; p < plain.people(); p++) {
      for (int w = 0; w < 6; w++) due("person(" + p + ", " + w + ")", real.person(p, w), plain.person(p, w));
      for (int b = 0; b < plain.bridges(); b++) due("left(" + p + ", " + b + ")", real.left(p, b), plain.left(p, b));
      for (int w = 0; w < 3; w++) due("came(" + p + ", " + w + ")", real.came(p, w), plain.came(p, w));
      for (int w = 0; w < 2; w++) due("trail(" + p + ", " + w + ")", real.trail(p, w), plain.trail(p, w));
      for (int w = 0; w <= 4; w++) due("life(" + p + ", 4, " + w + ")", real.life(p, 4, w), plain.life(p, 4, w));
      for (int o = 0; o < plain.people(); o++) {
        for (int w = 0; w < 2; w++) due("meet(" + p + ", " + o + ", " + w + ")", real.meet(p, o, w), plain.meet(p, o, w));
        for (int w = 0; w < 3; w++) due("letter(" + p + ", " + o + ", " + w + ")", real.letter(p, o, w), plain.letter(p, o, w));
      }
    }
  }
}
