import java.util.ArrayList;
import java.util.Arrays;
import java.util.List;

/**
 * The document once more, as plainly as it can be written: every row is tried
 * out, nothing is kept that can be reckoned again. ThriceBridge must answer the
 * same. It is slow, and may throw where a test asks what no document tells.
 */
final class PlainTown {
  // ---- tokens and their faults

  static final class Token {
    final char kind; // w word, n number, s sign, e end
    final String text;
    final int place;
    Token(char kind, String text, int place) { this.kind = kind; this.text = text; this.place = place; }
    boolean is(String t) { return kind != 'e' && text.equals(t); }
  }

  static final class Fault extends RuntimeException {
    private static final long serialVersionUID = 1;
    final int number;
    Fault(int place, int kind) { super(null, null, false, false); number = 1 + 8 * place + kind; }
  }

  static List<Token> tokens(byte[] tape) {
    List<Token> out = new ArrayList<>();
    int i = 0;
    while (i < tape.length) {
      int j = i;
      char c = (char) (tape[i] & 255);
      if (c == ' ') { i++; continue; }
      char kind = 's';
      if (c >= 'a' && c <= 'z') { kind = 'w'; while (j < tape.length && tape[j] >= 'a' && tape[j] <= 'z') j++; }
      else if (c >= '0' && c <= '9') { kind = 'n'; while (j < tape.length && tape[j] >= '0' && tape[j] <= '9') j++; }
      else { j++; if ((c == '<' || c == '>') && j < tape.length && tape[j] == '=') j++; }
      StringBuilder b = new StringBuilder();
      for (int k = i; k < j; k++) b.append((char) (tape[k] & 255));
      out.add(new Token(kind, b.toString(), i));
      i = j;
    }
    out.add(new Token('e', "", tape.length));
    return out;
  }

  // ---- the town

  static final class Told {
    int quarters, times;
    List<int[]> bridges = new ArrayList<>(), ferries = new ArrayList<>(), frosts = new ArrayList<>();
    List<Integer> homes = new ArrayList<>();
    List<int[]> crossed = new ArrayList<>(), wants = new ArrayList<>();
  }

  static int number(Token t, int low, int high) {
    if (t.kind != 'n') throw new Fault(t.place, 0);
    if (t.text.length() > 5) throw new Fault(t.place, 1);
    int v = Integer.parseInt(t.text);
    if (v < low || v > high) throw new Fault(t.place, 1);
    return v;
  }

  static Told readTown(byte[] tape) {
    List<Token> ts = tokens(tape);
    Told t = new Told();
    int i = 0;
    for (int clause = 1; ; clause++) {
      Token head = ts.get(i++);
      int arity = switch (head.kind == 'w' ? head.text : "") {
        case "town", "bridge", "ferry", "frost" -> 2;
        case "person" -> 1;
        case "crossed" -> 3;
        case "want" -> 4;
        default -> throw new Fault(head.place, 0);
      };
      boolean full = switch (head.text) {
        case "bridge" -> t.bridges.size() == 9;
        case "ferry" -> t.ferries.size() == 4;
        case "frost" -> t.frosts.size() == 4;
        case "person" -> t.homes.size() == 4;
        case "want" -> t.wants.size() == 8;
        default -> false;
      };
      if (clause > 40 || full || head.is("town") != (clause == 1)) throw new Fault(head.place, 4);
      int[] v = new int[arity];
      for (int k = 0; k < arity; k++) {
        int low = 0, high = 0;
        switch (head.text + k) {
          case "town0": low = 2; high = 8; break;
          case "town1": low = 1; high = 5; break;
          case "bridge0": case "bridge1": case "ferry0": case "ferry1": case "person0": case "want1":
            high = t.quarters - 1; break;
          case "frost0": case "want2": high = 99; break;
          case "frost1": low = v[0]; high = 99; break;
          case "crossed0": case "want0": high = t.homes.size() - 1; break;
          case "crossed1": high = t.bridges.size() - 1; break;
          case "crossed2": high = t.times; break;
          case "want3": low = 1; high = 50; break;
          default: throw new IllegalStateException(head.text + k);
        }
        Token n = ts.get(i++);
        v[k] = number(n, low, high);
        if ((head.is("bridge") || head.is("ferry")) && k == 1 && v[1] == v[0]) throw new Fault(n.place, 1);
      }
      switch (head.text) {
        case "town": t.quarters = v[0]; t.times = v[1]; break;
        case "bridge": t.bridges.add(v); break;
        case "ferry": t.ferries.add(v); break;
        case "frost": t.frosts.add(v); break;
        case "person": t.homes.add(v[0]); break;
        case "crossed": t.crossed.add(v); break;
        default: t.wants.add(v); break;
      }
      Token behind = ts.get(i++);
      if (behind.kind == 'e') return t;
      if (!behind.is(";")) throw new Fault(behind.place, 0);
    }
  }

  // ---- rules: the reader keeps what is open on a row of its own; the reckoner goes over the tokens

  static final List<String> WORDS = List.of("person", "bridge", "from", "to", "home", "left", "day", "goal", "pay",
      "until", "nearer", "people");

  static List<List<Token>> readRule(byte[] tape) {
    List<Token> ts = tokens(tape);
    List<List<Token>> clauses = new ArrayList<>();
    int parts = 0, i = 0;
    while (true) {
      Token head = ts.get(i++);
      if (!head.is("cross")) throw new Fault(head.place, 0);
      if (clauses.size() == 12) throw new Fault(head.place, 4);
      List<Token> clause = new ArrayList<>();
      // states: v a value of the clause's sum, o behind it; f a fact begins, l behind a value of its left
      // side, r a value of the left side, R a value of its right side, b behind one, c behind a whole fact
      char state = 'v';
      StringBuilder open = new StringBuilder();
      boolean over = false;
      while (!over) {
        Token t = ts.get(i);
        boolean value = t.kind == 'n' || t.kind == 'w' && WORDS.contains(t.text);
        boolean joins = List.of("+", "-", "*", "/", "%").contains(t.text);
        boolean closes = t.is("]") && open.indexOf("[") >= 0;
        boolean ends = (t.is(";") || t.kind == 'e') && open.indexOf("[") < 0;
        boolean goesOn = t.is("and") || t.is("or");
        if (state == 'f' && (t.is("[") || t.is("not"))) {
          if (open.length() == 10) throw new Fault(t.place, 2);
          open.append(t.is("[") ? '[' : '!');
        } else if ("vfrR".indexOf(state) >= 0 && value) {
          if (t.kind == 'n') number(t, 0, 99999);
          if (++parts > 60) throw new Fault(t.place, 3);
          state = state == 'v' ? 'o' : state == 'R' ? 'b' : 'l';
        } else if (state == 'o' && joins) {
          state = 'v';
        } else if (state == 'l' && joins) {
          state = 'r';
        } else if (state == 'b' && joins) {
          state = 'R';
        } else if (state == 'o' && t.is("if")) {
          state = 'f';
        } else if (state == 'l' && List.of("<", "<=", "=", ">=", ">").contains(t.text)) {
          if (++parts > 60) throw new Fault(t.place, 3);
          state = 'R';
        } else if ((state == 'b' || state == 'c') && (goesOn || closes)) {
          while (open.length() > 0 && open.charAt(open.length() - 1) == '!') open.setLength(open.length() - 1);
          if (closes) { open.setLength(open.length() - 1); state = 'c'; }
          else state = 'f';
        } else if ("obc".indexOf(state) >= 0 && ends) {
          over = true;
        } else {
          throw new Fault(t.place, 0);
        }
        if (!over) clause.add(t);
        i++;
      }
      clauses.add(clause);
      if (ts.get(i - 1).kind == 'e') return clauses;
    }
  }

  final class Reckoner {
    final List<Token> ts;
    final int person, bridge;
    int i = 0;
    Reckoner(List<Token> ts, int person, int bridge) { this.ts = ts; this.person = person; this.bridge = bridge; }
    boolean take(String s) { if (i < ts.size() && ts.get(i).is(s)) { i++; return true; } return false; }
    long value() { Token t = ts.get(i++); return t.kind == 'n' ? Long.parseLong(t.text) : word(t.text, person, bridge); }
    long term() {
      long v = value();
      while (true) {
        if (take("*")) v *= value();
        else if (take("/")) { long w = value(); v = w == 0 ? 0 : v / w; }
        else if (take("%")) { long w = value(); v = w == 0 ? 0 : v % w; }
        else return v;
      }
    }
    long sum() {
      long v = term();
      while (true) {
        if (take("+")) v += term();
        else if (take("-")) v -= term();
        else return v;
      }
    }
    boolean fact() {
      if (take("not")) return !fact();
      if (take("[")) { boolean b = test(); i++; return b; }
      long a = sum();
      String sign = ts.get(i++).text;
      int c = Long.compare(a, sum());
      return switch (sign) { case "<" -> c < 0; case "<=" -> c <= 0; case "=" -> c == 0; case ">=" -> c >= 0; default -> c > 0; };
    }
    boolean part() { boolean b = fact(); while (take("and")) b &= fact(); return b; }
    boolean test() { boolean b = part(); while (take("or")) b |= part(); return b; }
  }

  long byRule(List<List<Token>> rule, int person, int bridge) {
    for (List<Token> clause : rule) {
      Reckoner r = new Reckoner(clause, person, bridge);
      long sum = r.sum();
      if (!r.take("if") || r.test()) return sum;
    }
    return 0;
  }

  // ---- how all stands

  static final class State {
    Told told;
    int day;
    int[] at = {}, paid = {};
    int[][] crossed = {}, since = {};
    State copy() {
      State s = new State();
      s.told = told; s.day = day; s.at = at.clone(); s.paid = paid.clone();
      s.crossed = new int[crossed.length][]; s.since = new int[since.length][];
      for (int p = 0; p < crossed.length; p++) { s.crossed[p] = crossed[p].clone(); s.since[p] = since[p].clone(); }
      return s;
    }
  }

  byte[] tape = {};
  State s = new State();
  List<State> acts = new ArrayList<>();
  List<List<List<Token>>> rules = new ArrayList<>();
  State[] images = new State[4];
  long[] imageX = new long[4];
  long x = 0;

  int people() { return s.told == null ? 0 : s.told.homes.size(); }
  int bridges() { return s.told == null ? 0 : s.told.bridges.size(); }
  boolean isPerson(int p) { return p >= 0 && p < people(); }
  boolean isBridge(int b) { return b >= 0 && b < bridges(); }
  static boolean in(int v, int low, int high) { return v >= low && v <= high; }

  int over(int b, int q) {
    int[] e = s.told.bridges.get(b);
    return e[0] == q ? e[1] : e[1] == q ? e[0] : -1;
  }
  int[] lefts(int p) {
    int[] left = new int[bridges()];
    for (int b = 0; b < left.length; b++) left[b] = s.told.times - s.crossed[p][b];
    return left;
  }
  boolean can(int p, int b) { return over(b, s.at[p]) >= 0 && lefts(p)[b] > 0; }
  void go(int p, int b) { s.at[p] = over(b, s.at[p]); s.crossed[p][b]++; s.since[p][b]++; }
  void keep() { acts.add(s.copy()); if (acts.size() > 20) acts.remove(0); }

  int[] next(int p) {
    int[] best = null;
    for (int[] w : s.told.wants) if (w[0] == p && w[2] >= s.day && (best == null || w[2] < best[2])) best = w;
    return best;
  }
  int goal(int p) { int[] w = next(p); return w == null ? s.told.homes.get(p) : w[1]; }

  // the shortest of all rows of bridges that cross none twice, or -1
  int apart(int from, int to, int[] left, int seen) {
    if (from == to) return 0;
    int best = -1;
    for (int b = 0; b < bridges(); b++) {
      int q = over(b, from);
      if (q < 0 || left[b] < 1 || (seen >> q & 1) != 0) continue;
      int d = apart(q, to, left, seen | 1 << q);
      if (d >= 0 && (best < 0 || d + 1 < best)) best = d + 1;
    }
    return best;
  }
  int apart(int from, int to, int[] left) { return apart(from, to, left, 1 << from); }

  long word(String w, int p, int b) {
    int[] want = next(p);
    int from = s.at[p], to = over(b, from);
    switch (w) {
      case "person": return p;
      case "bridge": return b;
      case "from": return from;
      case "to": return to;
      case "home": return s.told.homes.get(p);
      case "left": return lefts(p)[b];
      case "day": return s.day;
      case "goal": return goal(p);
      case "pay": return want == null ? 0 : want[3];
      case "until": return want == null ? 0 : want[2] - s.day;
      case "nearer": {
        int[] all = new int[bridges()];
        Arrays.fill(all, 1);
        int here = apart(from, goal(p), all);
        return here < 0 ? 99 : here - apart(to, goal(p), all);
      }
      default: {
        int others = 0;
        for (int o = 0; o < people(); o++) if (o != p && s.at[o] == from) others++;
        return others;
      }
    }
  }

  int dayEnds() {
    int pay = 0;
    for (int[] w : s.told.wants) if (w[2] == s.day && s.at[w[0]] == w[1]) { pay += w[3]; s.paid[w[0]] += w[3]; }
    s.day++;
    return pay;
  }
  boolean frost() {
    if (s.told != null) for (int[] f : s.told.frosts) if (in(s.day, f[0], f[1])) return true;
    return false;
  }

  // ---- the face

  int feed(int a, int b, int c, int d, int e) {
    if (tape.length + 20 > 400) return -1;
    int n = tape.length;
    tape = Arrays.copyOf(tape, n + 20);
    int[] all = {a, b, c, d, e};
    for (int i = 0; i < 20; i++) tape[n + i] = (byte) (all[i / 4] >>> (24 - i % 4 * 8));
    return tape.length;
  }
  int end(int n) { if (!in(n, 0, tape.length)) return -1; tape = Arrays.copyOf(tape, n); return n; }
  int town() {
    byte[] text = tape;
    tape = new byte[0];
    try {
      Told t = readTown(text);
      s = new State();
      s.told = t;
      s.at = new int[people()];
      for (int p = 0; p < people(); p++) s.at[p] = t.homes.get(p);
      s.paid = new int[people()];
      s.crossed = new int[people()][bridges()];
      s.since = new int[people()][bridges()];
      for (int[] c : t.crossed) s.crossed[c[0]][c[1]] = c[2];
      acts.clear();
      return bridges();
    } catch (Fault f) { return -2 - f.number; }
  }
  int rule() {
    if (rules.size() == 6) return -1;
    byte[] text = tape;
    tape = new byte[0];
    try { rules.add(readRule(text)); return rules.size() - 1; }
    catch (Fault f) { return -2 - f.number; }
  }
  int reach(int p, int[] left) {
    int bits = 0;
    for (int q = 0; q < s.told.quarters; q++) if (apart(s.at[p], q, left) >= 0) bits |= 1 << q;
    return bits;
  }
  int reach(int p) { return reach(p, lefts(p)); }
  int person(int p, int what) {
    if (!isPerson(p) || !in(what, 0, 5)) return -1;
    int lost = 0;
    for (int b = 0; b < bridges(); b++) if (lefts(p)[b] == 0) lost |= 1 << b;
    return new int[] {s.at[p], s.told.homes.get(p), s.paid[p], reach(p), lost, goal(p)}[what];
  }
  int left(int p, int b) { return isPerson(p) && isBridge(b) ? lefts(p)[b] : -1; }
  int all(int b) { int n = 0; for (int p = 0; p < people(); p++) n += s.crossed[p][b]; return n; }
  int bridge(int b, int what) {
    if (!isBridge(b) || !in(what, 0, 2)) return -1;
    return what == 2 ? all(b) : s.told.bridges.get(b)[what];
  }
  int cross(int p, int b) {
    if (!isPerson(p) || !isBridge(b) || !can(p, b)) return -1;
    keep(); go(p, b);
    return s.at[p];
  }
  int sail(int p, int f) {
    if (!isPerson(p) || !in(f, 0, s.told.ferries.size() - 1) || frost()) return -1;
    int[] e = s.told.ferries.get(f);
    if (e[0] != s.at[p] && e[1] != s.at[p]) return -1;
    keep();
    s.at[p] = e[0] + e[1] - s.at[p];
    return s.at[p];
  }
  int carry(int p, int a, int b) {
    if (!isPerson(p) || !isPerson(a) || p == a || !isBridge(b) || s.at[p] != s.at[a] || !can(p, b)) return -1;
    keep(); go(p, b); s.at[a] = s.at[p];
    return s.at[p];
  }
  int rebuild(int b) {
    if (!isBridge(b) || all(b) == 0) return -1;
    int n = all(b);
    keep();
    for (int p = 0; p < people(); p++) { s.crossed[p][b] = 0; s.since[p][b] = 0; }
    return n;
  }
  int day() { if (s.told == null || s.day == 999) return -1; keep(); return dayEnds(); }
  int undo() { if (acts.isEmpty()) return -1; s = acts.remove(acts.size() - 1); return acts.size(); }
  int run(int r, int n) {
    if (s.told == null || !in(r, 0, rules.size() - 1) || !in(n, 1, 60) || s.day + n > 999) return -1;
    acts.clear();
    int pay = 0;
    for (int i = 0; i < n; i++) {
      for (int p = 0; p < people(); p++) {
        int best = -1;
        long most = 0;
        for (int b = 0; b < bridges(); b++) {
          if (!can(p, b)) continue;
          long v = byRule(rules.get(r), p, b);
          if (v > most) { most = v; best = b; }
        }
        if (best >= 0) go(p, best);
      }
      pay += dayEnds();
    }
    return pay;
  }
  int way(int p, int q, int what) {
    if (!isPerson(p) || s.told == null || !in(q, 0, s.told.quarters - 1) || !in(what, 0, 1)) return -3;
    int d = apart(s.at[p], q, lefts(p));
    if (d < 0) return -2;
    if (what == 0) return d;
    for (int b = 0; b < bridges(); b++) {
      if (d == 0 || !can(p, b)) continue;
      int[] left = lefts(p);
      left[b]--;
      if (apart(over(b, s.at[p]), q, left) == d - 1) return b;
    }
    return -1;
  }

  // ---- LIFE: each row of n, one by one
  int lifeMost; int[] lifeRow;
  void tryRows(int p, int n, int[] left, int[] row, int i, int q, int earned) {
    if (i == n) {
      if (q == s.told.homes.get(p) && earned > lifeMost) { lifeMost = earned; lifeRow = row.clone(); }
      return;
    }
    for (int b = -1; b < bridges(); b++) {
      int to = b < 0 ? q : over(b, q);
      if (to < 0 || b >= 0 && left[b] < 1) continue;
      if (b >= 0) left[b]--;
      int pay = 0;
      for (int[] w : s.told.wants) if (w[0] == p && w[1] == to && w[2] == s.day + i) pay += w[3];
      row[i] = b;
      tryRows(p, n, left, row, i + 1, to, earned + pay);
      if (b >= 0) left[b]++;
    }
  }
  int lifeEarns(int p, int n, int[] left) {
    lifeMost = -1; lifeRow = null;
    tryRows(p, n, left, new int[n], 0, s.at[p], 0);
    return lifeMost;
  }
  int life(int p, int n, int what) {
    if (!isPerson(p) || !in(n, 1, 6) || !in(what, 0, 6)) return -3;
    int most = lifeEarns(p, n, lefts(p));
    if (most < 0 || what > n) return -2;
    return what == 0 ? most : lifeRow[what - 1];
  }
  int worth(int p, int b, int n) {
    if (!isPerson(p) || !isBridge(b) || !in(n, 1, 6)) return -1;
    int[] left = lefts(p);
    left[b]++;
    return Math.max(0, lifeEarns(p, n, left)) - Math.max(0, lifeEarns(p, n, lefts(p)));
  }
  int more(int p, int n) {
    if (!isPerson(p) || !in(n, 1, 6)) return -1;
    int[] left = lefts(p);
    for (int b = 0; b < left.length; b++) left[b]++;
    return Math.max(0, lifeEarns(p, n, left)) - Math.max(0, lifeEarns(p, n, lefts(p)));
  }

  int meet(int a, int b, int what) {
    if (!isPerson(a) || !isPerson(b) || a == b || !in(what, 0, 1)) return -1;
    int[] best = null;
    for (int q = 0; q < s.told.quarters; q++) {
      int d = apart(s.at[a], q, lefts(a)), e = apart(s.at[b], q, lefts(b));
      if (d < 0 || e < 0) continue;
      int[] row = {d + e, Math.max(d, e), q};
      if (best == null || Arrays.compare(row, best) < 0) best = row;
    }
    return best == null ? -2 : what == 0 ? best[2] : best[0];
  }
  int best(int what) {
    if (s.told == null || !in(what, 0, 2)) return -1;
    int best = -2, most = 0, who = 0;
    for (int b = 0; b < bridges(); b++) {
      int grown = 0, bits = 0;
      for (int p = 0; p < people(); p++) {
        int[] left = lefts(p);
        left[b] = s.told.times;
        int g = Integer.bitCount(reach(p, left)) - Integer.bitCount(reach(p));
        grown += g;
        if (g > 0) bits |= 1 << p;
      }
      if (grown > most) { best = b; most = grown; who = bits; }
    }
    return new int[] {best, most, who}[what];
  }
  int alone() {
    if (s.told == null) return -1;
    int bits = (1 << people()) - 1;
    for (int p = 0; p < people(); p++)
      for (int o = 0; o < people(); o++)
        if (o != p && (reach(o) >> s.at[p] & 1) != 0) bits &= ~(1 << p);
    return bits;
  }
  boolean share(int a, int b) { return (reach(a) & reach(b)) != 0; }
  int letter(int from, int to, int what) {
    if (!isPerson(from) || !isPerson(to) || from == to || !in(what, 0, 2)) return -1;
    List<int[]> rows = new ArrayList<>(); // in the order in which they should be taken
    rows.add(new int[] {});
    for (int a = 0; a < people(); a++) rows.add(new int[] {a});
    for (int a = 0; a < people(); a++) for (int b = 0; b < people(); b++) rows.add(new int[] {a, b});
    for (int[] row : rows) {
      int holder = from;
      boolean good = true;
      for (int h : row) { good &= h != holder && share(holder, h); holder = h; }
      if (!good || !share(holder, to)) continue;
      return what == 0 ? row.length : what <= row.length ? row[what - 1] : -2;
    }
    return -2;
  }

  List<int[]> cameRows;
  void tryWays(int p, int[] open, int[] row, int i, int q) {
    if (i == row.length) { if (q == s.at[p]) cameRows.add(row.clone()); return; }
    for (int b = 0; b < bridges(); b++) {
      if (open[b] == 0 || over(b, q) < 0) continue;
      open[b]--;
      row[i] = b;
      tryWays(p, open, row, i + 1, over(b, q));
      open[b]++;
    }
  }
  int came(int p, int what) {
    if (!isPerson(p) || !in(what, 0, 2)) return -1;
    int n = Arrays.stream(s.since[p]).sum();
    if (n > 8) return -3;
    cameRows = new ArrayList<>();
    tryWays(p, s.since[p].clone(), new int[n], 0, s.told.homes.get(p));
    if (what == 0) return cameRows.size();
    int bits = 0;
    if (n > 0) for (int[] r : cameRows) bits |= 1 << r[n - 1];
    if (what == 1) return bits;
    return n == 0 || cameRows.isEmpty() ? -2 : cameRows.get(0)[n - 1];
  }

  int[] trailBest;
  void tryTrails(int[] left, int length, int q) {
    if (length > trailBest[0]) trailBest = new int[] {length, q};
    if (length == 8) return;
    for (int b = 0; b < bridges(); b++) {
      if (left[b] < 1 || over(b, q) < 0 || trailBest[0] == 8) continue;
      left[b]--;
      tryTrails(left, length + 1, over(b, q));
      left[b]++;
    }
  }
  int trail(int p, int what) {
    if (!isPerson(p) || !in(what, 0, 1)) return -1;
    trailBest = new int[] {0, s.at[p]};
    tryTrails(lefts(p), 0, s.at[p]);
    return trailBest[what];
  }

  int seed(int n) { if (n < 0) return -1; int was = (int) x; x = n; return was; }
  int lives(int m, int n, int what) {
    if (s.told == null || !in(m, 1, 10) || !in(n, 1, 60) || !in(what, 0, 1)) return -1;
    State was = s;
    long wasX = x;
    int crossings = 0, pay = 0;
    for (int i = 0; i < m; i++) {
      s = was.copy();
      for (int j = 0; j < n; j++) {
        for (int p = 0; p < people(); p++) {
          x = (x * 1103515245 + 12345) % 2147483648L;
          int b = (int) (x / 65536 % (bridges() + 1));
          if (b < bridges() && can(p, b)) { go(p, b); crossings++; }
        }
        pay += dayEnds();
      }
    }
    s = was;
    x = wasX;
    return what == 0 ? crossings : pay;
  }
  int count(int what) {
    Told t = s.told == null ? new Told() : s.told;
    int home = 0;
    for (int p = 0; p < people(); p++) if (s.at[p] == t.homes.get(p)) home |= 1 << p;
    int[] all = {t.quarters, t.times, t.bridges.size(), t.ferries.size(), t.homes.size(), t.wants.size(), rules.size(),
        s.day, frost() ? 1 : 0, Arrays.stream(s.paid).sum(), home, acts.size(), (int) x, tape.length};
    return in(what, 0, 13) ? all[what] : -1;
  }
  int image(int k) { if (!in(k, 0, 3)) return -1; images[k] = s.copy(); imageX[k] = x; return s.day; }
  int back(int k) {
    if (!in(k, 0, 3) || images[k] == null) return -1;
    s = images[k].copy(); x = imageX[k]; acts.clear();
    return s.day;
  }
}
