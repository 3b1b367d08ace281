import java.lang.reflect.InvocationTargetException;
import java.lang.reflect.Method;
import java.util.Arrays;

/** Promises 1 to 38, call by call: what each answers for others, that it changes nothing then, and on objects that are new, full, at their end. */
public final class EdgesOfCallsTest extends Helpers {
  /** On an object like six() with two TEXTS and a tape of 20 bytes: a call, what it answers for others, from and to of each number. */
  private static final String[] CALLS = {
    "thing -1 1..99 0..5 0..4", "reaper -1 1..99", "barn -1 1..999", "cut -1 0..1 0..2 0..1", "last -1 0..2 0..1", "use -1 1..60 0..1",
    "move 0 0..5 0..1", "sell -1 0..5", "hour -1 1..60", "decades -1 0..9999 1..30", "end -1 0..20", "fault -1 0..1", "by 0 -1..1", "played -2 0..1",
    "of -1 0..1 0..6", "ofReaper -1 0..2 0..2", "bale -1 0..5 0..5", "ofBarn -1 0..1 0..1", "foretold -1 1..60 0..1", "stored -1 1..60 0..1",
    "most -1 0..2 0..1 1..4 -1..0", "need -2 -1..999 1..999", "unmet -1 1..20", "enough -1 1..120 0..60", "over -1 0..1 1..8 0..9 0..1",
    "whose -1 0..5 1..999 0..999", "at -1 0..1 1..999 0..999", "leave -1 0..9999 0..9999 0..9999 0..9999", "packed -1 1..63 -1..0",
    "when -1 0..5 0..60 0..1", "about -2 0..12"
  };

  public static void main(String[] args) throws Exception {
    others();
    within();
    onNew();
    onFull();
    atTheEnd();
    calls512();
    close("EdgesOfCallsTest");
  }

  private static Method method(String name) {
    return Arrays.stream(BaledShade.class.getMethods()).filter(m -> m.getName().equals(name)).findFirst().orElseThrow();
  }

  private static int call(BaledShade x, String name, int... a) throws Exception {
    Object[] boxed = Arrays.stream(a).boxed().toArray();
    try {
      Object answer = method(name).invoke(x, boxed);
      return answer instanceof Boolean b ? bit(b) : (Integer) answer;
    } catch (InvocationTargetException e) {
      due(name + Arrays.toString(a) + " threw " + e.getCause(), 1, 0);
      return Integer.MIN_VALUE;
    }
  }

  /** HOUR 2 of DAY 0, so that each REAPER may CUT. */
  private static BaledShade ready() {
    BaledShade x = six();
    tell(x, "");
    tell(x, "hour 1;");
    x.feed(0, 0, 0, 0, 0);
    x.hour(1);
    return x;
  }

  private static int[][] rangesOf(String call) {
    String[] parts = call.split(" ");
    int[][] ranges = new int[parts.length - 2][];
    for (int i = 2; i < parts.length; i++) ranges[i - 2] = Arrays.stream(parts[i].split("\\.\\.")).mapToInt(Integer::parseInt).toArray();
    return ranges;
  }

  // ---- NONE for others

  private static void others() throws Exception {
    for (String line : CALLS) {
      String name = line.split(" ")[0];
      int refused = Integer.parseInt(line.split(" ")[1]);
      heading(name + " for others");
      int[][] ranges = rangesOf(line);
      due("so many numbers", method(name).getParameterCount(), ranges.length);
      for (int i = 0; i < ranges.length; i++) {
        int from = ranges[i][0];
        int to = ranges[i][1];
        // those that are within if only their lowest bytes count, too
        int[] outside = {from - 1, to + 1, from + 65536, to - 65536, from + (1 << 24), Integer.MIN_VALUE, Integer.MIN_VALUE + to, Integer.MAX_VALUE,
            -to - 2, from + 10240};
        for (int v : outside) {
          for (int end = 0; end < 2; end++) {
            int[] a = new int[ranges.length];
            for (int k = 0; k < a.length; k++) a[k] = ranges[k][end];
            a[i] = v;
            if (name.equals("need") && a[0] == NONE) continue;
            // more HOURS or BALES leave i more room
            if ((name.equals("most") || name.equals("packed")) && i == a.length - 1 && end == 1) continue;
            BaledShade x = ready();
            String before = state(x);
            due(name + Arrays.toString(a), call(x, name, a), refused);
            due(name + Arrays.toString(a) + " changes nothing", state(x).equals(before), true);
          }
        }
      }
    }
    heading("hail for others");
    for (int v : new int[] {-1, 0, 10, 65537, -65535, Integer.MIN_VALUE, Integer.MAX_VALUE}) {
      due("hail(" + v + ", 0, false)", ready().hail(v, 0, false), NONE);
      due("hail(" + v + ", 0, true)", ready().hail(v, 0, true), NONE);
    }
    for (int v : new int[] {-1, 10, 65536, -65536, Integer.MIN_VALUE, Integer.MAX_VALUE}) {
      due("hail(1, " + v + ", false)", ready().hail(1, v, false), NONE);
      due("hail(1, " + v + ", true)", ready().hail(1, v, true), NONE);
    }
  }

  /** Each number at its ends, all ends together: none is refused but where the document has a reason of its own. */
  private static void within() throws Exception {
    for (String line : CALLS) {
      String name = line.split(" ")[0];
      int refused = Integer.parseInt(line.split(" ")[1]);
      heading(name + " at the ends of its numbers");
      int[][] ranges = rangesOf(line);
      for (int bits = 0; bits < 1 << ranges.length; bits++) {
        int[] a = new int[ranges.length];
        for (int k = 0; k < a.length; k++) a[k] = ranges[k][bits >> k & 1];
        int got = call(ready(), name, a);
        due(name + Arrays.toString(a) + " is refused", got == refused, refusedFor(name, a));
      }
    }
  }

  private static boolean refusedFor(String name, int[] a) {
    return switch (name) {
      // BALES 0 .. 2 are in BARN 0, 3 .. 5 in BARN 1
      case "move" -> a[1] == a[0] / 3;
      // the latest text had no FAULT, so it has no place
      case "fault" -> a[0] == 1;
      // no NEED, so none is unmet
      case "unmet" -> true;
      // 120 feet are less on the next DAY
      case "enough" -> a[0] == 120 && a[1] == 60;
      // OWNERS 0 and 1 have a THING each: more than nothing, not more than 9999
      case "leave" -> a[0] != 0 && a[1] != 0;
      default -> false;
    };
  }

  // ---- states

  private static void onNew() throws Exception {
    heading("on a new object");
    String[] answers = {"cut -1 0 0 0", "last -1 0 0", "use -1 1 0", "move 0 0 0", "sell -1 0", "decades -1 0 1", "end -1 1", "end 0 0", "fault -1 0",
        "fault -1 1", "by 0 0", "by 1 -1", "played -2 0", "undo -1", "of -1 0 0", "ofReaper -1 0 0", "bale -1 0 0", "ofBarn -1 0 0",
        "foretold -1 1 0", "stored -1 1 0", "most -1 0 0 1 -1", "need 0 -1 0", "unmet -1 1", "enough -1 1 0", "over -1 0 1 0 0", "whose 0 0 1 0",
        "at -1 0 1 0", "leave -1 0 0 0 0", "packed -1 1 -1", "when -1 0 0 0", "image 0", "back 0", "text 0", "hour 1 1"};
    BaledShade all = new BaledShade();
    for (String line : answers) {
      String[] parts = line.split(" ");
      int[] a = Arrays.stream(parts).skip(2).mapToInt(Integer::parseInt).toArray();
      due(line, call(new BaledShade(), parts[0], a), Integer.parseInt(parts[1]));
      due(line + " in a row", call(all, parts[0], a), Integer.parseInt(parts[1]));
    }
    due("hail(1, 0, true)", new BaledShade().hail(1, 0, true), 1);
    int[] about = {0, 0, 0, 0, 0, 0, 0, 83, 0, -1, 0, 0, 0};
    dueAbout(new BaledShade(), "of a new object", about);
  }

  private static void onFull() {
    heading("on a full object");
    BaledShade x = new BaledShade();
    for (int i = 0; i < 8; i++) x.thing(99, i % 6, i % 5);
    for (int i = 0; i < 4; i++) x.reaper(80);
    for (int i = 0; i < 4; i++) x.barn(240);
    for (int i = 0; i < 4; i++) tell(x, "hour 1;");
    for (int i = 0; i < 8; i++) x.need(i + 1, 999);
    x.hour(27);
    for (int b = 0; b < 12; b++) {
      due("cut", x.cut(b % 8, b % 4, b / 3), b);
      if (b % 4 == 3) x.hour(1);
    }
    for (int i = 0; i < 15; i++) x.feed(0, 0, 0, 0, 0);
    int x7 = x.about(7);
    dueAbout(x, "of a full object", 8, 4, 4, 0, 3, 4, 0, x7, 4, -1, 30, 8, 300);
    dueStill("thing", x, () -> x.thing(1, 1, 1), NONE);
    dueStill("reaper", x, () -> x.reaper(1), NONE);
    dueStill("barn", x, () -> x.barn(1), NONE);
    dueStill("cut", x, () -> x.cut(0, 0, 0), NONE);
    dueStill("last", x, () -> x.last(0, 0), NONE);
    dueStill("need", x, () -> x.need(1, 1), -2);
  }

  private static void atTheEnd() {
    heading("at HOUR 9 of DAY 999");
    BaledShade x = six();
    hours(x, 9998);
    due("HOUR", x.about(3), 9);
    x.cut(0, 0, 0);
    x.cut(1, 1, 1);
    dueStill("hour", x, () -> x.hour(1), NONE);
    due("use", x.use(1, 0), x.ofBarn(0, 1));
    due("move", x.move(0, 1), true);
    due("last", x.last(2, 0), 2);
    due("sell", x.sell(2), 30);
    due("image", x.image(), 999);
    due("decades: HOURS alone, that can't pass", x.decades(0, 1), 30);
    due("DAY", x.about(4) * 10 + x.about(3), 9999);
    due("over", x.over(1, 8, 9, 0) > 0, true);
    due("back", x.back(), 999);
    due("undo", x.undo() != NONE, true);
    due("need", x.need(999, 1), 1);
    due("unmet", x.unmet(20), NONE);
  }

  // ---- 512 calls

  private static void calls512() throws Exception {
    heading("An object is used for at most 512 calls: each of them answers");
    String[] dear = {"most 0 0 4 -1", "over 0 8 0 1", "packed 63 5", "enough 100 60", "unmet 20", "when 0 60 1", "stored 60 0", "foretold 60 0",
        "whose 1 30 999", "leave 9999 9999 9999 9999", "image", "back"};
    for (String line : dear) {
      String[] parts = line.split(" ");
      int[] a = Arrays.stream(parts).skip(1).mapToInt(Integer::parseInt).toArray();
      BaledShade x = ready();
      x.need(3, 30);
      int first = call(x, parts[0], a);
      int unlike = 0;
      for (int i = x.about(10) + 1; i < 512; i++) {
        if (call(x, parts[0], a) != first) unlike++;
      }
      due(line + " again and again", unlike, 0);
    }
    BaledShade hours = new BaledShade();
    for (int i = 1; i <= 510; i++) hours.hour(1);
    due("the 511th call", hours.hour(1), 1);
    due("the 512th call", hours.about(4), 51);
    BaledShade decades = small();
    for (int i = 4; i <= 510; i++) decades.decades(i * 19, 30);
    due("the 511th call", decades.about(10), 30);
    due("the 512th call", decades.undo(), 29);
    BaledShade texts = new BaledShade();
    for (int i = 0; i < 102; i++) {
      texts.feed(0x6c6f6e67, 0x20312b64, 0x61726b3b, 0, 0);
      texts.end(12);
      due("text()", texts.text(), NONE);
      due("fault(0)", texts.fault(0), 5);
      due("fault(1)", texts.fault(1), 7);
    }
    BaledShade row = new BaledShade();
    for (int i = 0; i < 170; i++) {
      due("image()", row.image(), 0);
      due("thing()", row.thing(5, 5, 4), 0);
      due("back()", row.back(), 0);
    }
    due("THINGS", row.about(0), 0);
  }
}
