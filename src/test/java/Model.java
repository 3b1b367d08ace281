import java.math.BigInteger;
import java.util.ArrayList;
import java.util.HashMap;
import java.util.List;
import java.util.Map;
import java.util.Set;
import java.util.TreeMap;
import java.util.regex.Matcher;
import java.util.regex.Pattern;

/**
 * The document once more, as slow and plain as can be, for the tests to compare with: nothing is shared with
 * the program, and where the program is clever this one tries everything.
 */
final class Model {
  static final int NONE = -1;

  /** What STEPS change. */
  static final class State {
    TreeMap<Integer, Integer> grown = new TreeMap<>();
    java.util.HashSet<Integer> gone = new java.util.HashSet<>();
    java.util.HashSet<Integer> hasCut = new java.util.HashSet<>();
    Bale[] bales = new Bale[12];
    int hour, day, cloud, pence, x = 83;

    State copy() {
      State s = new State();
      s.grown.putAll(grown);
      s.gone.addAll(gone);
      s.hasCut.addAll(hasCut);
      for (int i = 0; i < 12; i++) s.bales[i] = bales[i] == null ? null : bales[i].copy();
      s.hour = hour; s.day = day; s.cloud = cloud; s.pence = pence; s.x = x;
      return s;
    }

    int grownOf(int t) { return grown.getOrDefault(t, 100); }
  }

  static final class Bale {
    int kind, length, dark, barn;
    Bale(int kind, int length, int dark, int barn) {
      this.kind = kind; this.length = length; this.dark = dark; this.barn = barn;
    }
    Bale copy() { return new Bale(kind, length, dark, barn); }
  }

  record Thing(int height, int kind, int owner) { }
  record Need(int day, int feet) { }
  record Deed(String word, List<Integer> numbers) { }

  interface Sum { long value(Map<String, Integer> names); }

  static final class Text {
    final Map<String, Sum> laws = new HashMap<>();
    final List<Deed> deeds = new ArrayList<>();
  }

  List<Thing> things = new ArrayList<>();
  List<Integer> reapers = new ArrayList<>();
  List<Integer> barns = new ArrayList<>();
  List<Text> texts = new ArrayList<>();
  List<Need> needs = new ArrayList<>();
  List<State> steps = new ArrayList<>();
  State s = new State();
  int rule = NONE;
  String tape = "";
  int fault = -5, place = NONE;
  Runnable goBack;

  Model() { keep(); }

  private void keep() {
    List<Thing> t = List.copyOf(things);
    List<Integer> r = List.copyOf(reapers), b = List.copyOf(barns);
    List<Text> x = List.copyOf(texts);
    List<Need> n = List.copyOf(needs);
    List<State> st = List.copyOf(steps);
    State now = s.copy();
    int ruled = rule;
    goBack = () -> {
      things = new ArrayList<>(t); reapers = new ArrayList<>(r); barns = new ArrayList<>(b);
      texts = new ArrayList<>(x); needs = new ArrayList<>(n); steps = new ArrayList<>(st);
      s = now.copy(); rule = ruled;
    };
  }

  static boolean in(int v, int lo, int hi) { return lo <= v && v <= hi; }

  // ---- laws

  private Sum law(String name) { return rule == NONE ? null : texts.get(rule).laws.get(name); }

  private static int clamp(long v, int hi) { return (int) Math.max(0, Math.min(hi, v)); }

  int shadow(int t, int grown, int hour, int day, int cloud) {
    Thing g = things.get(t);
    Sum law = law("long");
    if (law == null) return g.height * grown * (1 + Math.abs(hour - 5)) / 200;
    return clamp(law.value(Map.of("day", day, "kind", g.kind, "height", g.height, "grown", grown, "hour", hour, "cloud", cloud)), 999);
  }

  int shadow(State s, int t) { return shadow(t, s.grownOf(t), s.hour, s.day, s.cloud); }

  int grows(int t, int grown, int day, int cloud) {
    Thing g = things.get(t);
    Sum law = law("grows");
    if (law == null) return 10;
    return clamp(law.value(Map.of("day", day, "kind", g.kind, "height", g.height, "grown", grown, "cloud", cloud)), 100);
  }

  boolean may(State s, int t) {
    Thing g = things.get(t);
    Sum law = law("may");
    if (law == null) return true;
    return law.value(Map.of("day", s.day, "kind", g.kind, "height", g.height, "grown", s.grownOf(t), "hour", s.hour,
        "owner", g.owner, "shadow", shadow(s, t))) != 0;
  }

  int spoils(State s, Bale b) {
    Sum law = law("spoils");
    if (law == null) return 1;
    int here = 0;
    for (Bale o : s.bales) if (o != null && o.barn == b.barn) here++;
    return clamp(law.value(Map.of("day", s.day, "kind", b.kind, "dark", b.dark, "length", b.length, "here", here)), 999);
  }

  int sells(State s, Bale b) {
    Sum law = law("sells");
    if (law == null) return b.length;
    return clamp(law.value(Map.of("day", s.day, "kind", b.kind, "hour", s.hour, "dark", b.dark, "length", b.length)), 9999);
  }

  // ---- what is done to a state

  static int draw(State s, int m) {
    int d = s.x % m;
    s.x = (int) ((s.x * 287L + 191) % 30313);
    return d;
  }

  static int feet(State s, int barn) {
    int f = 0;
    for (Bale b : s.bales) if (b != null && (barn == NONE || b.barn == barn)) f += b.length;
    return f;
  }

  static int free(State s) {
    for (int i = 0; i < 12; i++) if (s.bales[i] == null) return i;
    return NONE;
  }

  int doCut(State s, int t, int r, int b) {
    if (!in(t, 0, things.size() - 1) || !in(r, 0, reapers.size() - 1) || !in(b, 0, barns.size() - 1)) return NONE;
    if (s.gone.contains(r) || s.hasCut.contains(r)) return NONE;
    int shadow = shadow(s, t);
    int slot = free(s);
    if (!may(s, t) || shadow <= 0 || slot == NONE) return NONE;
    int length = Math.min(shadow, reapers.get(r));
    if (feet(s, b) + length > barns.get(b)) return NONE;
    s.bales[slot] = new Bale(things.get(t).kind, length, 0, b);
    s.grown.put(t, s.grownOf(t) - s.grownOf(t) * length / shadow);
    s.hasCut.add(r);
    return slot;
  }

  int doLast(State s, int r, int b) {
    if (!in(r, 0, reapers.size() - 1) || !in(b, 0, barns.size() - 1) || s.gone.contains(r)) return NONE;
    int slot = free(s);
    if (slot == NONE || feet(s, b) + reapers.get(r) > barns.get(b)) return NONE;
    s.gone.add(r);
    s.bales[slot] = new Bale(5, reapers.get(r), 0, b);
    return slot;
  }

  static boolean doUse(State s, int feet, int barn) {
    if (feet(s, barn) < feet) return false;
    List<Integer> order = new ArrayList<>();
    for (int i = 0; i < 12; i++) if (s.bales[i] != null && (barn == NONE || s.bales[i].barn == barn)) order.add(i);
    order.sort((p, q) -> s.bales[p].dark != s.bales[q].dark ? s.bales[q].dark - s.bales[p].dark : p - q);
    for (int i : order) {
      int part = Math.min(feet, s.bales[i].length);
      feet -= part;
      s.bales[i].length -= part;
      if (s.bales[i].length == 0) s.bales[i] = null;
    }
    return true;
  }

  boolean doMove(State s, int bale, int barn) {
    if (!in(bale, 0, 11) || s.bales[bale] == null || !in(barn, 0, barns.size() - 1)) return false;
    Bale b = s.bales[bale];
    if (b.barn == barn || feet(s, barn) + b.length > barns.get(barn)) return false;
    b.barn = barn;
    return true;
  }

  int doSell(State s, int bale) {
    if (!in(bale, 0, 11) || s.bales[bale] == null) return NONE;
    int p = sells(s, s.bales[bale]);
    s.pence += p;
    s.bales[bale] = null;
    return p;
  }

  boolean doHour(State s) {
    if (s.day == 999 && s.hour == 9) return false;
    s.hasCut.clear();
    s.hour++;
    if (s.hour == 10) {
      s.hour = 0;
      s.day++;
      s.cloud = draw(s, 10);
      if (s.cloud < 8) {
        for (int t = 0; t < things.size(); t++) {
          int g = s.grownOf(t);
          s.grown.put(t, Math.min(100, g + grows(t, g, s.day, s.cloud)));
        }
      }
      for (int i = 0; i < 12; i++) {
        Bale b = s.bales[i];
        if (b == null) continue;
        b.length -= spoils(s, b);
        b.dark = Math.min(99, b.dark + 1);
        if (b.length <= 0) s.bales[i] = null;
      }
    }
    return true;
  }

  void doDecade(State s) {
    switch (draw(s, 6)) {
      case 0 -> {
        int t = draw(s, things.size()), r = draw(s, reapers.size()), b = draw(s, barns.size());
        doCut(s, t, r, b);
      }
      case 1 -> doSell(s, draw(s, 12));
      case 2 -> {
        Bale b;
        int i = draw(s, 12), less = 1 + draw(s, 20);
        b = s.bales[i];
        if (b != null) {
          b.length -= less;
          if (b.length <= 0) s.bales[i] = null;
        }
      }
      default -> doHour(s);
    }
  }

  State behind(int n) {
    State f = s.copy();
    for (int i = 0; i < n; i++) doHour(f);
    return f;
  }

  private void step(State ahead) {
    steps.add(ahead);
    if (steps.size() > 30) steps.remove(0);
  }

  // ---- the face

  int thing(int h, int k, int o) {
    if (!in(h, 1, 99) || !in(k, 0, 5) || !in(o, 0, 4) || things.size() == 8) return NONE;
    things.add(new Thing(h, k, o));
    s.grown.put(things.size() - 1, 100);
    return things.size() - 1;
  }

  int reaper(int reach) {
    if (!in(reach, 1, 99) || reapers.size() == 4) return NONE;
    reapers.add(reach);
    return reapers.size() - 1;
  }

  int barn(int room) {
    if (!in(room, 1, 999) || barns.size() == 4) return NONE;
    barns.add(room);
    return barns.size() - 1;
  }

  int cut(int t, int r, int b) {
    State a = s.copy();
    int v = doCut(s, t, r, b);
    if (v != NONE) step(a);
    return v;
  }

  int last(int r, int b) {
    State a = s.copy();
    int v = doLast(s, r, b);
    if (v != NONE) step(a);
    return v;
  }

  int use(int feet, int b) {
    if (!in(feet, 1, 999) || !in(b, 0, barns.size() - 1)) return NONE;
    State a = s.copy();
    if (!doUse(s, feet, b)) return NONE;
    step(a);
    return feet(s, b);
  }

  boolean move(int bale, int b) {
    State a = s.copy();
    boolean v = doMove(s, bale, b);
    if (v) step(a);
    return v;
  }

  int sell(int bale) {
    State a = s.copy();
    int v = doSell(s, bale);
    if (v != NONE) step(a);
    return v;
  }

  private boolean oneHour() {
    State a = s.copy();
    boolean v = doHour(s);
    if (v) step(a);
    return v;
  }

  int hour(int n) {
    if (!in(n, 1, 60)) return NONE;
    if (s.day * 10 + s.hour + n > 9999) return NONE;
    for (int i = 0; i < n; i++) oneHour();
    return s.hour;
  }

  int decades(int seed, int n) {
    if (!in(seed, 0, 9999) || !in(n, 1, 30) || things.isEmpty() || reapers.isEmpty() || barns.isEmpty()) return NONE;
    State a = s.copy();
    s.x = seed * 2 + 83;
    for (int i = 0; i < n; i++) doDecade(s);
    step(a);
    return s.pence;
  }

  int feed(int... fives) {
    if (tape.length() + 20 > 300) return NONE;
    StringBuilder b = new StringBuilder(tape);
    for (int v : fives) for (byte x : java.nio.ByteBuffer.allocate(4).putInt(v).array()) b.append((char) (x & 255));
    tape = b.toString();
    return tape.length();
  }

  int end(int n) {
    if (!in(n, 0, tape.length())) return NONE;
    tape = tape.substring(0, n);
    return n;
  }

  int text() {
    if (texts.size() == 4) return NONE;
    Parse p = new Parse(tape);
    tape = "";
    fault = 0;
    place = NONE;
    try {
      texts.add(p.whole());
      return texts.size() - 1;
    } catch (Wrong w) {
      fault = w.fault;
      place = w.place;
      return NONE;
    }
  }

  int fault(int what) {
    if (fault == -5) return NONE;
    return what == 0 ? fault : what == 1 ? place : NONE;
  }

  boolean by(int text) {
    if (!in(text, -1, texts.size() - 1)) return false;
    rule = text;
    return true;
  }

  int played(int text) {
    if (!in(text, 0, texts.size() - 1)) return -2;
    List<Deed> deeds = texts.get(text).deeds;
    for (int i = 0; i < deeds.size(); i++) {
      List<Integer> n = deeds.get(i).numbers;
      boolean can = switch (deeds.get(i).word) {
        case "thing" -> thing(n.get(0), n.get(1), n.get(2)) != NONE;
        case "reaper" -> reaper(n.get(0)) != NONE;
        case "barn" -> barn(n.get(0)) != NONE;
        case "cut" -> cut(n.get(0), n.get(1), n.get(2)) != NONE;
        case "last" -> last(n.get(0), n.get(1)) != NONE;
        case "use" -> use(n.get(0), n.get(1)) != NONE;
        case "move" -> move(n.get(0), n.get(1));
        case "sell" -> sell(n.get(0)) != NONE;
        case "hour" -> {
          boolean all = true;
          for (int h = 0; h < n.get(0) && all; h++) all = oneHour();
          yield all;
        }
        default -> true;
      };
      if (!can) return i;
    }
    return NONE;
  }

  int undo() {
    if (steps.isEmpty()) return NONE;
    s = steps.remove(steps.size() - 1).copy();
    return steps.size();
  }

  int of(int t, int what) {
    if (!in(t, 0, things.size() - 1)) return NONE;
    Thing g = things.get(t);
    return switch (what) {
      case 0 -> g.height;
      case 1 -> g.kind;
      case 2 -> g.owner;
      case 3 -> s.grownOf(t);
      case 4 -> shadow(s, t);
      case 5 -> grows(t, s.grownOf(t), s.day, s.cloud);
      case 6 -> may(s, t) ? 1 : 0;
      default -> NONE;
    };
  }

  int ofReaper(int r, int what) {
    if (!in(r, 0, reapers.size() - 1)) return NONE;
    return switch (what) {
      case 0 -> reapers.get(r);
      case 1 -> s.gone.contains(r) ? 0 : 1;
      case 2 -> s.hasCut.contains(r) ? 1 : 0;
      default -> NONE;
    };
  }

  int bale(int i, int what) {
    if (!in(i, 0, 11) || s.bales[i] == null) return NONE;
    Bale b = s.bales[i];
    return switch (what) {
      case 0 -> b.kind;
      case 1 -> b.length;
      case 2 -> b.dark;
      case 3 -> b.barn;
      case 4 -> spoils(s, b);
      case 5 -> sells(s, b);
      default -> NONE;
    };
  }

  int ofBarn(int b, int what) {
    if (!in(b, 0, barns.size() - 1)) return NONE;
    return what == 0 ? barns.get(b) : what == 1 ? feet(s, b) : NONE;
  }

  int foretold(int n, int t) {
    if (!in(n, 1, 60) || !in(t, 0, things.size() - 1)) return NONE;
    return behind(n).grownOf(t);
  }

  int stored(int n, int b) {
    if (!in(n, 1, 60) || !in(b, 0, barns.size() - 1)) return NONE;
    return feet(behind(n), b);
  }

  /** Every way at all, written as digits (0 none, 1 the lowest THING, ..) and tried in their order. */
  int most(int r, int b, int n, int i) {
    if (!in(r, 0, reapers.size() - 1) || !in(b, 0, barns.size() - 1) || !in(n, 1, 4) || !in(i, -1, n - 1)) return NONE;
    int base = things.size() + 1, ways = 1, best = -1;
    int[] bestWay = null;
    for (int k = 0; k < n; k++) ways *= base;
    for (int w = 0; w < ways; w++) {
      int[] way = new int[n];
      for (int k = n - 1, v = w; k >= 0; k--, v /= base) way[k] = v % base;
      State f = s.copy();
      int sum = 0;
      boolean can = true;
      for (int k = 0; k < n && can; k++) {
        if (way[k] > 0) {
          int slot = doCut(f, way[k] - 1, r, b);
          can = slot != NONE;
          if (can) sum += f.bales[slot].length;
        }
        doHour(f);
      }
      if (can && sum > best) { best = sum; bestWay = way; }
    }
    if (i == NONE) return best;
    return bestWay[i] == 0 ? 8 : bestWay[i] - 1;
  }

  int need(int day, int feet) {
    if (day == NONE) { needs.clear(); return 0; }
    if (!in(day, 0, 999) || !in(feet, 1, 999) || needs.size() == 8) return -2;
    needs.add(new Need(day, feet));
    return needs.size();
  }

  int unmet(int n) {
    if (!in(n, 1, 20)) return NONE;
    State f = s.copy();
    int last = f.day + n;
    while (f.day < last) {
      int day = f.day;
      if (!doHour(f)) return NONE;
      if (f.day == day) continue;
      for (int i = 0; i < needs.size(); i++) {
        if (needs.get(i).day == f.day && !doUse(f, needs.get(i).feet, NONE)) return i;
      }
    }
    return NONE;
  }

  int enough(int feet, int n) {
    if (!in(feet, 1, 9999) || !in(n, 0, 60)) return NONE;
    State f = behind(n);
    int best = NONE;
    for (int set = 1; set < 4096; set++) {
      int sum = 0;
      for (int b = 0; b < 12; b++) if ((set >> b & 1) == 1 && f.bales[b] != null) sum += f.bales[b].length;
      if (sum >= feet && (best == NONE || Integer.bitCount(set) < Integer.bitCount(best))) best = set;
    }
    return best;
  }

  /** Every set of DAYS; like ones are compared as words of 0 and 1, the first DAY first. */
  int over(int t, int n, int hour, int what) {
    if (!in(t, 0, things.size() - 1) || !in(n, 1, 8) || !in(hour, 0, 9) || !in(what, 0, 1)) return NONE;
    int best = -1, bestSet = 0;
    String bestWord = "";
    for (int set = 0; set < 1 << n; set++) {
      int g = s.grownOf(t), sum = 0;
      StringBuilder word = new StringBuilder();
      for (int d = 0; d < n; d++) {
        if ((set >> d & 1) == 1) {
          sum += shadow(t, g, hour, s.day + d, s.cloud);
          g = 0;
          word.append('1');
        } else {
          word.append('0');
        }
        g = Math.min(100, g + grows(t, g, s.day + d, s.cloud));
      }
      if (sum > best || sum == best && word.toString().compareTo(bestWord) < 0) {
        best = sum;
        bestSet = set;
        bestWord = word.toString();
      }
    }
    return what == 0 ? best : bestSet;
  }

  int at(int t, int feet, int day) {
    if (!in(t, 0, things.size() - 1) || !in(feet, 1, 999) || !in(day, 0, 999)) return NONE;
    int set = 0;
    for (int h = 0; h < 10; h++) if (shadow(t, 100, h, day, 0) == feet) set += 1 << h;
    return set;
  }

  int whose(int kind, int feet, int day) {
    if (!in(kind, 0, 5) || !in(feet, 1, 999) || !in(day, 0, 999)) return NONE;
    int set = 0;
    for (int t = 0; t < things.size(); t++) if (things.get(t).kind == kind && at(t, feet, day) > 0) set += 1 << t;
    return set;
  }

  int leave(int... shares) {
    for (int v : shares) if (!in(v, 0, 9999)) return NONE;
    for (int set = 1; set < 16; set++) {
      int alone = 0, share = 0, owners = 0;
      for (int o = 0; o < 4; o++) if ((set >> o & 1) == 1) { share += shares[o]; owners++; }
      for (int t = 0; t < things.size(); t++) {
        int o = things.get(t).owner;
        if (o == 4 ? owners >= 3 : (set >> o & 1) == 1) alone += shadow(s, t);
      }
      if (alone > share) return set;
    }
    return NONE;
  }

  int packed(int set, int i) {
    if (set < 1 || set > 4095 || Integer.bitCount(set) > 6) return NONE;
    List<Bale> load = new ArrayList<>();
    for (int b = 0; b < 12; b++) {
      if ((set >> b & 1) == 0) continue;
      if (s.bales[b] == null) return NONE;
      load.add(s.bales[b]);
    }
    int ways = 1, fewest = 99;
    int[] best = null;
    for (Bale b : load) ways *= barns.size();
    for (int w = 0; w < ways; w++) {
      int[] to = new int[load.size()];
      for (int k = to.length - 1, v = w; k >= 0; k--, v /= barns.size()) to[k] = v % barns.size();
      int used = 0;
      boolean fits = true;
      for (int b = 0; b < barns.size(); b++) {
        int feet = 0;
        Set<Integer> kinds = new java.util.HashSet<>();
        for (int k = 0; k < to.length; k++) if (to[k] == b) { feet += load.get(k).length; kinds.add(load.get(k).kind); }
        if (!kinds.isEmpty()) used++;
        if (kinds.size() > 1 || feet > barns.get(b)) fits = false;
      }
      if (fits && used < fewest) { fewest = used; best = to; }
    }
    if (best == null || !in(i, -1, best.length - 1)) return NONE;
    return i == NONE ? fewest : best[i];
  }

  int when(int bale, int n, int what) {
    if (!in(bale, 0, 11) || s.bales[bale] == null || !in(n, 0, 60) || !in(what, 0, 1)) return NONE;
    int best = -1, first = -1;
    State f = s.copy();
    for (int h = 0; h <= n; h++) {
      if (h > 0 && !doHour(f)) break;
      if (f.bales[bale] == null) break;
      int p = sells(f, f.bales[bale]);
      if (p > best) { best = p; first = h; }
    }
    return what == 0 ? first : best;
  }

  /** All 10 ^ n CLOUDS are too many; each DAY is 0 .. 4 with 4 the hail, so 5 ^ n are told off one by one. */
  int hail(int n, int k, boolean low) {
    if (!in(n, 1, 9) || !in(k, 0, 9)) return NONE;
    int all = 1, good = 0;
    for (int i = 0; i < n; i++) all *= 5;
    for (int w = 0; w < all; w++) {
      int hails = 0;
      for (int v = w, d = 0; d < n; d++, v /= 5) if (v % 5 == 4) hails++;
      if (hails >= k) good++;
    }
    int gcd = BigInteger.valueOf(good).gcd(BigInteger.valueOf(all)).intValue();
    return low ? all / gcd : good / gcd;
  }

  int image() { keep(); return s.day; }

  int back() { goBack.run(); return s.day; }

  int about(int what) {
    int[] all = {things.size(), reapers.size(), barns.size(), s.hour, s.day, s.cloud, s.pence, s.x, texts.size(), rule,
        steps.size(), needs.size(), tape.length()};
    return in(what, 0, 12) ? all[what] : -2;
  }

  // ---- texts

  static final class Wrong extends RuntimeException {
    final int fault, place;
    Wrong(int fault, int place) { this.fault = fault; this.place = place; }
  }

  record Token(String word, int place) { }

  static final class Parse {
    static final Map<String, Set<String>> NAMES = Map.of(
        "long", Set.of("day", "kind", "height", "grown", "hour", "cloud"),
        "grows", Set.of("day", "kind", "height", "grown", "cloud"),
        "spoils", Set.of("day", "kind", "dark", "length", "here"),
        "sells", Set.of("day", "kind", "hour", "dark", "length"),
        "may", Set.of("day", "kind", "height", "grown", "hour", "owner", "shadow"));
    static final Set<String> ALL_NAMES = Set.of("day", "kind", "height", "grown", "hour", "cloud", "dark", "length", "here",
        "owner", "shadow");
    /** How a CLAUSE goes on: a range, or a word. */
    static final Map<String, String> FORMS = Map.of("thing", "1-99 kind 0-5 of 0-4", "reaper", "1-99", "barn", "1-999",
        "cut", "0-7 by 0-3 to 0-3", "last", "0-3 to 0-3", "use", "1-999 from 0-3", "move", "0-11 to 0-3", "sell", "0-11",
        "hour", "1-60");

    final List<Token> tokens = new ArrayList<>();
    int i = 0;
    String law;

    Parse(String tape) {
      Matcher m = Pattern.compile("[a-zA-Z]+|[0-9]+|<=|>=|[^ \n]", Pattern.DOTALL).matcher(tape);
      while (m.find()) tokens.add(new Token(m.group(), m.start()));
      tokens.add(new Token("", tape.length()));
    }

    String word() { return tokens.get(i).word; }

    Wrong wrong(int fault) { return new Wrong(fault, tokens.get(i).place); }

    void expect(String w) {
      if (!word().equals(w)) throw wrong(1);
      i++;
    }

    boolean isNumber() { return word().matches("[0-9]+"); }

    int number(int lo, int hi) {
      if (!isNumber()) throw wrong(1);
      BigInteger v = new BigInteger(word());
      if (v.compareTo(BigInteger.valueOf(lo)) < 0 || v.compareTo(BigInteger.valueOf(hi)) > 0) throw wrong(2);
      i++;
      return v.intValue();
    }

    Text whole() {
      Text text = new Text();
      while (!word().isEmpty()) {
        String opener = word();
        boolean isLaw = NAMES.containsKey(opener);
        if (!isLaw && !FORMS.containsKey(opener)) throw wrong(1);
        if (isLaw && text.laws.containsKey(opener)) throw wrong(4);
        if (text.deeds.size() == 24) throw wrong(6);
        i++;
        List<Integer> numbers = new ArrayList<>();
        if (isLaw) {
          law = opener;
          text.laws.put(opener, opener.equals("may") ? either() : sum(0));
        } else {
          for (String part : FORMS.get(opener).split(" ")) {
            if (part.contains("-")) {
              String[] ends = part.split("-");
              numbers.add(number(Integer.parseInt(ends[0]), Integer.parseInt(ends[1])));
            } else {
              expect(part);
            }
          }
        }
        expect(";");
        text.deeds.add(new Deed(opener, numbers));
      }
      return text;
    }

    Sum either() {
      Sum left = both();
      while (word().equals("or")) {
        i++;
        Sum a = left, b = both();
        left = n -> a.value(n) != 0 | b.value(n) != 0 ? 1 : 0;
      }
      return left;
    }

    Sum both() {
      Sum left = ask(0);
      while (word().equals("and")) {
        i++;
        Sum a = left, b = ask(0);
        left = n -> a.value(n) != 0 & b.value(n) != 0 ? 1 : 0;
      }
      return left;
    }

    Sum ask(int open) {
      if (word().equals("not")) {
        if (open == 8) throw wrong(3);
        i++;
        Sum a = ask(open + 1);
        return n -> a.value(n) == 0 ? 1 : 0;
      }
      Sum a = sum(open);
      String sign = word();
      if (!List.of("<", "<=", ">", ">=", "=", "#").contains(sign)) throw wrong(1);
      i++;
      Sum b = sum(open);
      return n -> {
        int c = Long.compare(a.value(n), b.value(n));
        boolean so = switch (sign) {
          case "<" -> c < 0;
          case "<=" -> c <= 0;
          case ">" -> c > 0;
          case ">=" -> c >= 0;
          case "=" -> c == 0;
          default -> c != 0;
        };
        return so ? 1 : 0;
      };
    }

    static long bound(long v) { return v > 1000000 ? 1000000 : v < -1000000 ? -1000000 : v; }

    Sum sum(int open) {
      Sum left = product(open);
      while (word().equals("+") || word().equals("-")) {
        boolean plus = word().equals("+");
        i++;
        Sum a = left, b = product(open);
        left = n -> bound(plus ? a.value(n) + b.value(n) : a.value(n) - b.value(n));
      }
      return left;
    }

    Sum product(int open) {
      Sum left = one(open);
      while (word().equals("*") || word().equals("/")) {
        boolean times = word().equals("*");
        i++;
        Sum a = left, b = one(open);
        left = n -> {
          long x = a.value(n), y = b.value(n);
          return bound(times ? x * y : y == 0 ? 0 : x / y);
        };
      }
      return left;
    }

    Sum one(int open) {
      if (isNumber()) {
        int v = number(0, 9999);
        return n -> v;
      }
      String w = word();
      if (ALL_NAMES.contains(w)) {
        if (!NAMES.get(law).contains(w)) throw wrong(5);
        i++;
        return n -> n.get(w);
      }
      if (!List.of("(", "-", "part").contains(w)) throw wrong(1);
      if (open == 8) throw wrong(3);
      i++;
      if (w.equals("(")) {
        Sum a = sum(open + 1);
        expect(")");
        return a;
      }
      if (w.equals("-")) {
        Sum a = one(open + 1);
        return n -> -a.value(n);
      }
      int hundredths = number(0, 100);
      expect("of");
      Sum a = one(open + 1);
      return n -> a.value(n) * hundredths / 100;
    }
  }
}
