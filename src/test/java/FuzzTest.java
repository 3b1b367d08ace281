import java.nio.charset.StandardCharsets;
import java.util.ArrayList;
import java.util.Arrays;
import java.util.List;
import java.util.Random;

/** Long random runs of calls on the program and on the model: each answer must be the same. The seeds are fixed. */
public final class FuzzTest {
  private static int wrong = 0;

  private final Random random;
  private final BaledShade shade = new BaledShade();
  private final Model model = new Model();
  private final List<String> told = new ArrayList<>();
  private int calls = 0;

  private FuzzTest(long seed) { random = new Random(seed); }

  public static void main(String[] args) {
    int runs = args.length > 0 ? Integer.parseInt(args[0]) : 400;
    int first = args.length > 1 ? Integer.parseInt(args[1]) : 0;
    for (int seed = first; seed < first + runs && wrong < 5; seed++) new FuzzTest(seed).run(seed);
    System.out.println(wrong == 0 ? "FuzzTest: all answers are alike" : "FuzzTest: " + wrong + " runs are not alike");
    if (wrong != 0) System.exit(1);
  }

  private void run(int seed) {
    try {
      boolean late = seed % 10 == 9;
      if (late) for (int i = 0; i < 166; i++) call("hour", 60);
      if (seed % 3 != 0) fill();
      while (calls < 470) {
        step();
      }
      probe();
    } catch (Unlike u) {
      wrong++;
      System.out.println("seed " + seed + ", call " + calls + ": " + u.getMessage());
      for (String t : told.subList(Math.max(0, told.size() - 12), told.size())) System.out.println("    " + t);
    }
  }

  private static final class Unlike extends RuntimeException {
    private static final long serialVersionUID = 1;
    Unlike(String what) { super(what); }
  }

  private int any(int n) { return random.nextInt(n); }

  private int among(int lo, int hi) { return lo + random.nextInt(hi - lo + 1); }

  /** Mostly within, now and then at or beyond the edges. */
  private int arg(int lo, int hi) {
    int k = any(40);
    if (k == 0) return lo - 1;
    if (k == 1) return hi + 1;
    if (k == 2) return lo;
    if (k == 3) return hi;
    if (k == 4 && any(4) == 0) return random.nextInt();
    return among(lo, hi);
  }

  private int call(String name, int... a) {
    if (calls >= 512) return -99;
    calls++;
    told.add(name + Arrays.toString(a));
    int got;
    try {
      got = ofShade(name, a);
    } catch (RuntimeException e) {
      throw new Unlike("the program threw " + e);
    }
    int due = ofModel(name, a);
    if (got != due) throw new Unlike(name + Arrays.toString(a) + " answered " + got + ", the model " + due);
    return got;
  }

  private static int bit(boolean b) { return b ? 1 : 0; }

  private int ofShade(String name, int[] a) {
    BaledShade x = shade;
    return switch (name) {
      case "thing" -> x.thing(a[0], a[1], a[2]);
      case "reaper" -> x.reaper(a[0]);
      case "barn" -> x.barn(a[0]);
      case "cut" -> x.cut(a[0], a[1], a[2]);
      case "last" -> x.last(a[0], a[1]);
      case "use" -> x.use(a[0], a[1]);
      case "move" -> bit(x.move(a[0], a[1]));
      case "sell" -> x.sell(a[0]);
      case "hour" -> x.hour(a[0]);
      case "decades" -> x.decades(a[0], a[1]);
      case "feed" -> x.feed(a[0], a[1], a[2], a[3], a[4]);
      case "end" -> x.end(a[0]);
      case "text" -> x.text();
      case "fault" -> x.fault(a[0]);
      case "by" -> bit(x.by(a[0]));
      case "played" -> x.played(a[0]);
      case "undo" -> x.undo();
      case "of" -> x.of(a[0], a[1]);
      case "ofReaper" -> x.ofReaper(a[0], a[1]);
      case "bale" -> x.bale(a[0], a[1]);
      case "ofBarn" -> x.ofBarn(a[0], a[1]);
      case "foretold" -> x.foretold(a[0], a[1]);
      case "stored" -> x.stored(a[0], a[1]);
      case "most" -> x.most(a[0], a[1], a[2], a[3]);
      case "need" -> x.need(a[0], a[1]);
      case "unmet" -> x.unmet(a[0]);
      case "enough" -> x.enough(a[0], a[1]);
      case "over" -> x.over(a[0], a[1], a[2], a[3]);
      case "whose" -> x.whose(a[0], a[1], a[2]);
      case "at" -> x.at(a[0], a[1], a[2]);
      case "leave" -> x.leave(a[0], a[1], a[2], a[3]);
      case "packed" -> x.packed(a[0], a[1]);
      case "when" -> x.when(a[0], a[1], a[2]);
      case "hail" -> x.hail(a[0], a[1], a[2] == 1);
      case "image" -> x.image();
      case "back" -> x.back();
      case "about" -> x.about(a[0]);
      default -> throw new IllegalStateException(name);
    };
  }

  private int ofModel(String name, int[] a) {
    Model x = model;
    return switch (name) {
      case "thing" -> x.thing(a[0], a[1], a[2]);
      case "reaper" -> x.reaper(a[0]);
      case "barn" -> x.barn(a[0]);
      case "cut" -> x.cut(a[0], a[1], a[2]);
      case "last" -> x.last(a[0], a[1]);
      case "use" -> x.use(a[0], a[1]);
      case "move" -> bit(x.move(a[0], a[1]));
      case "sell" -> x.sell(a[0]);
      case "hour" -> x.hour(a[0]);
      case "decades" -> x.decades(a[0], a[1]);
      case "feed" -> x.feed(a[0], a[1], a[2], a[3], a[4]);
      case "end" -> x.end(a[0]);
      case "text" -> x.text();
      case "fault" -> x.fault(a[0]);
      case "by" -> bit(x.by(a[0]));
      case "played" -> x.played(a[0]);
      case "undo" -> x.undo();
      case "of" -> x.of(a[0], a[1]);
      case "ofReaper" -> x.ofReaper(a[0], a[1]);
      case "bale" -> x.bale(a[0], a[1]);
      case "ofBarn" -> x.ofBarn(a[0], a[1]);
      case "foretold" -> x.foretold(a[0], a[1]);
      case "stored" -> x.stored(a[0], a[1]);
      case "most" -> x.most(a[0], a[1], a[2], a[3]);
      case "need" -> x.need(a[0], a[1]);
      case "unmet" -> x.unmet(a[0]);
      case "enough" -> x.enough(a[0], a[1]);
      case "over" -> x.over(a[0], a[1], a[2], a[3]);
      case "whose" -> x.whose(a[0], a[1], a[2]);
      case "at" -> x.at(a[0], a[1], a[2]);
      case "leave" -> x.leave(a[0], a[1], a[2], a[3]);
      case "packed" -> x.packed(a[0], a[1]);
      case "when" -> x.when(a[0], a[1], a[2]);
      case "hail" -> x.hail(a[0], a[1], a[2] == 1);
      case "image" -> x.image();
      case "back" -> x.back();
      case "about" -> x.about(a[0]);
      default -> throw new IllegalStateException(name);
    };
  }

  private void fill() {
    for (int i = among(1, 8); i > 0; i--) call("thing", among(1, 99), any(6), any(5));
    for (int i = among(1, 4); i > 0; i--) call("reaper", among(1, 99));
    for (int i = among(1, 4); i > 0; i--) call("barn", among(30, 999));
    for (int i = any(14); i > 0; i--) {
      call("cut", any(8), any(4), any(4));
      if (any(2) == 0) call("hour", among(1, 3));
    }
  }

  private int thing() { return arg(0, Math.max(0, model.things.size() - 1)); }

  private int reaper() { return arg(0, Math.max(0, model.reapers.size() - 1)); }

  private int barn() { return arg(0, Math.max(0, model.barns.size() - 1)); }

  private void step() {
    switch (any(44)) {
      case 0 -> call("thing", arg(1, 99), arg(0, 5), arg(0, 4));
      case 1 -> call("reaper", arg(1, 99));
      case 2 -> call("barn", arg(1, 999));
      case 3, 4, 5, 6, 7 -> call("cut", thing(), reaper(), barn());
      case 8 -> { if (any(3) == 0) call("last", reaper(), barn()); }
      case 9 -> call("use", any(2) == 0 ? arg(1, 40) : arg(1, 999), barn());
      case 10 -> call("move", arg(0, 11), barn());
      case 11 -> { if (any(2) == 0) call("sell", arg(0, 11)); }
      case 12, 13, 14 -> call("hour", any(3) == 0 ? arg(1, 60) : among(1, 4));
      case 15 -> { if (any(3) == 0) call("decades", arg(0, 9999), arg(1, 30)); }
      case 16 -> { if (any(3) == 0) call("feed", random.nextInt(), random.nextInt(), 0, 0, random.nextInt()); }
      case 17 -> { if (any(3) == 0) call("end", arg(0, Math.max(0, model.tape.length()))); }
      case 18, 19 -> write(words(any(4)));
      case 20 -> call("fault", arg(0, 1));
      case 21 -> call("by", arg(-1, Math.max(0, model.texts.size() - 1)));
      case 22 -> call("played", arg(0, Math.max(0, model.texts.size() - 1)));
      case 23 -> { for (int i = any(6) == 0 ? 32 : any(3); i >= 0; i--) call("undo"); }
      case 24 -> call("of", thing(), arg(0, 6));
      case 25 -> call("ofReaper", reaper(), arg(0, 2));
      case 26 -> call("bale", arg(0, 11), arg(0, 5));
      case 27 -> call("ofBarn", barn(), arg(0, 1));
      case 28 -> call("foretold", arg(1, 60), thing());
      case 29 -> call("stored", arg(1, 60), barn());
      case 30 -> {
        int r = reaper(), b = barn(), n = any(8) == 0 ? arg(1, 4) : among(1, 3);
        for (int i = -1; i <= n && i < 3; i++) call("most", r, b, n, i);
      }
      case 31 -> call("need", any(12) == 0 ? -1 : any(3) == 0 ? arg(0, 999) : model.s.day + any(6), any(2) == 0 ? arg(1, 999) : among(1, 60));
      case 32 -> call("unmet", arg(1, 20));
      case 33 -> call("enough", any(2) == 0 ? arg(1, 9999) : among(1, 200), any(3) == 0 ? arg(0, 60) : any(12));
      case 34 -> {
        int t = thing(), n = arg(1, 8), h = arg(0, 9);
        call("over", t, n, h, 0);
        call("over", t, n, h, 1);
      }
      case 35 -> {
        int t = any(8), day = arg(0, 999);
        int feet = t < model.things.size() && in999(day) ? Math.max(1, model.shadow(t, 100, any(10), day, 0)) : arg(1, 999);
        call("whose", t < model.things.size() ? model.things.get(t).kind() : arg(0, 5), feet, day);
        call("at", t, feet, day);
      }
      case 36 -> call("leave", any(4) * any(100), any(4) * any(100), any(300), any(2) == 0 ? arg(0, 9999) : any(50));
      case 37, 38 -> packed();
      case 39 -> {
        int b = arg(0, 11), n = arg(0, 60);
        call("when", b, n, 0);
        call("when", b, n, 1);
        call("when", b, n, arg(0, 1));
      }
      case 40 -> call("hail", arg(1, 9), arg(0, 9), any(2));
      case 41 -> { if (any(3) == 0) call("image"); }
      case 42 -> { if (any(5) == 0) { call("back"); probe(); } }
      default -> call("about", arg(0, 12));
    }
  }

  private static boolean in999(int day) { return day >= 0 && day <= 999; }

  private void packed() {
    int set = 0;
    for (int b = 0; b < 12; b++) if (model.s.bales[b] != null && any(2) == 0) set |= 1 << b;
    if (any(8) == 0) set = arg(1, 4095);
    int n = Math.min(8, Integer.bitCount(set));
    for (int i = -1; i <= n; i++) call("packed", set, i);
  }

  /** The whole state as it can be seen, as far as calls are left. */
  private void probe() {
    for (int i = 0; i < 13; i++) call("about", i);
    for (int t = 0; t < model.things.size(); t++) call("of", t, any(2) == 0 ? 3 : 4);
    for (int r = 0; r < model.reapers.size(); r++) call("ofReaper", r, among(1, 2));
    for (int b = 0; b < 12; b++) call("bale", b, any(6));
  }

  private void write(String text) {
    call("end", 0);
    byte[] bytes = text.getBytes(StandardCharsets.ISO_8859_1);
    int length = Math.min(300, bytes.length);
    byte[] padded = Arrays.copyOf(bytes, 320);
    for (int i = 0; i < length; i += 20) {
      int[] five = new int[5];
      java.nio.ByteBuffer.wrap(padded, i, 20).asIntBuffer().get(five);
      call("feed", five);
    }
    call("end", length);
    call("text");
    call("fault", 0);
    call("fault", 1);
    if (any(2) == 0) call("by", model.texts.size() - 1);
    if (any(3) == 0) call("played", model.texts.size() - 1);
    if (model.texts.size() == 4 && any(2) == 0) call("back");
  }

  // ---- texts

  private String words(int how) {
    StringBuilder b = new StringBuilder();
    int n = any(6) == 0 ? among(20, 27) : among(1, 6);
    for (int i = 0; i < n && b.length() < 280; i++) b.append(any(3) == 0 ? law() : n > 10 ? shortDeed() : deed());
    if (how == 0) spoil(b);
    if (how == 1 && any(2) == 0) b.setLength(any(b.length() + 1));
    return b.toString();
  }

  private String blank() { return any(6) == 0 ? "\n" : any(6) == 0 ? "  " : " "; }

  private String shortDeed() { return any(2) == 0 ? "hour 1;" : "sell " + any(12) + ";"; }

  private String deed() {
    return switch (any(11)) {
      case 0 -> "thing " + arg(1, 99) + " kind " + arg(0, 5) + blank() + "of " + arg(0, 4) + ";";
      case 1 -> "reaper " + arg(1, 99) + ";";
      case 2 -> "barn" + blank() + arg(1, 999) + " ;";
      case 3, 4, 5 -> "cut " + arg(0, 7) + " by " + arg(0, 3) + " to " + arg(0, 3) + ";";
      case 6 -> "last " + arg(0, 3) + " to " + arg(0, 3) + ";";
      case 7 -> "use " + (any(2) == 0 ? arg(1, 999) : among(1, 30)) + " from " + arg(0, 3) + ";";
      case 8 -> "move " + arg(0, 11) + " to " + arg(0, 3) + ";";
      case 9 -> "sell " + arg(0, 11) + ";";
      default -> "hour " + arg(1, 60) + ";";
    };
  }

  private static final String[] LAWS = {"long", "grows", "spoils", "sells", "may"};
  private static final String[] NAMES = {"day kind height grown hour cloud", "day kind height grown cloud", "day kind dark length here",
      "day kind hour dark length", "day kind height grown hour owner shadow"};
  private String[] names = {};

  private String law() {
    int law = any(5);
    names = any(30) == 0 ? "day kind height grown hour cloud dark length here owner shadow".split(" ") : NAMES[law].split(" ");
    return LAWS[law] + " " + (law == 4 ? either() : sum(any(40) == 0 ? 9 : 2)) + ";";
  }

  private String either() {
    StringBuilder b = new StringBuilder(ask());
    for (int i = any(4); i > 0; i--) b.append(any(2) == 0 ? " and " : " or ").append(ask());
    return b.toString();
  }

  private String ask() {
    StringBuilder b = new StringBuilder();
    for (int i = any(20) == 0 ? among(6, 9) : any(4) == 0 ? among(1, 2) : 0; i > 0; i--) b.append("not ");
    return b + sum(1) + new String[] {"<", "<=", ">", ">=", "=", "#"}[any(6)] + sum(1);
  }

  private String sum(int depth) {
    StringBuilder b = new StringBuilder(product(depth));
    for (int i = any(3); i > 0; i--) b.append(any(2) == 0 ? "+" : "-").append(product(depth));
    return b.toString();
  }

  private String product(int depth) {
    StringBuilder b = new StringBuilder(one(depth));
    for (int i = any(3) == 0 ? among(1, 2) : 0; i > 0; i--) b.append(any(2) == 0 ? "*" : "/").append(one(depth));
    return b.toString();
  }

  private String one(int depth) {
    int k = any(depth > 5 ? 4 : 8);
    if (depth > 0 && k == 0) return "(" + (depth > 5 ? one(depth - 1) : sum(depth - 1)) + ")";
    if (depth > 0 && k == 1) return "-" + one(depth - 1);
    if (depth > 0 && k == 2) return "part " + arg(0, 100) + " of " + one(depth - 1);
    if (depth > 5 && k == 3) return "(" + one(depth - 1) + ")";
    if (k < 6) return names[any(names.length)];
    return "" + (any(3) == 0 ? arg(0, 9999) : any(20));
  }

  private static final String SOUP = "long grows spoils sells may thing reaper barn cut last use move sell hour day kind height grown "
      + "cloud dark length here owner shadow of by to from or and not part <= >= < > = # + - * / ( ) ; 5 0 100 10000 x ! longs";

  private void spoil(StringBuilder b) {
    String[] soup = SOUP.split(" ");
    for (int i = among(1, 2); i > 0; i--) {
      int at = any(b.length() + 1);
      switch (any(4)) {
        case 0 -> b.insert(at, " " + soup[any(soup.length)] + " ");
        case 1 -> { if (at < b.length()) b.deleteCharAt(at); }
        case 2 -> { if (at < b.length()) b.setCharAt(at, (char) any(256)); }
        default -> b.insert(at, soup[any(soup.length)]);
      }
    }
  }
}
