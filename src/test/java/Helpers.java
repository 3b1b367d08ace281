import java.nio.ByteBuffer;
import java.nio.charset.StandardCharsets;
import java.util.Arrays;
import java.util.function.IntSupplier;
import java.util.function.IntUnaryOperator;

/** What the tests by hand have in common: objects to begin with, texts on the tape, answers that are due. */
abstract class Helpers {
  static final int NONE = BaledShade.NONE;
  private static int wrong = 0;
  private static int labels = 0;
  private static String label = "";

  /** What the answers from here on are about. */
  static void heading(String what) {
    label = what;
    labels++;
  }

  static void due(String call, long got, long want) {
    if (got != want) {
      wrong++;
      System.out.println(label + ": " + call + " answered " + got + ", due is " + want);
    }
  }

  static void due(String call, boolean got, boolean want) { due(call, got ? 1 : 0, want ? 1 : 0); }

  static void close(String test) {
    String all = test + ": " + labels + " headings, ";
    System.out.println(all + (wrong == 0 ? "all answers are as due" : wrong + " answers are not as due"));
    if (wrong != 0) System.exit(1);
  }

  static int bit(boolean b) { return b ? 1 : 0; }

  // ---- objects to begin with

  /** One THING (KIND 1, OWNER 0), one REAPER, one BARN. */
  static BaledShade with(int height, int reach, int room) {
    BaledShade x = new BaledShade();
    x.thing(height, 1, 0);
    x.reaper(reach);
    x.barn(room);
    return x;
  }

  /** A THING of HEIGHT 10 (SHADOW 30 at HOUR 0), a REAPER of REACH 30, a BARN of ROOM 50. */
  static BaledShade small() { return with(10, 30, 50); }

  /** Two THINGS of HEIGHT 99, REAPERS of REACH 10, 20, 30, two BARNS of ROOM 999. */
  static BaledShade big() {
    BaledShade x = new BaledShade();
    x.thing(99, 1, 0);
    x.thing(99, 2, 1);
    x.reaper(10);
    x.reaper(20);
    x.reaper(30);
    x.barn(999);
    x.barn(999);
    return x;
  }

  /** The big one with BALES 0 .. 2 (10, 20, 30) in BARN 0 and 3 .. 5 (likewise) in BARN 1, at HOUR 1. */
  static BaledShade six() {
    BaledShade x = big();
    x.cut(0, 0, 0);
    x.cut(1, 1, 0);
    x.cut(0, 2, 0);
    x.hour(1);
    x.cut(0, 0, 1);
    x.cut(1, 1, 1);
    x.cut(0, 2, 1);
    return x;
  }

  /** BALES of these LENGTHS (four unlike ones at most) of KIND 1 in BARN 0 (ROOM 999), on DAY 0, with as few HOURS as can be. */
  static BaledShade lengths(int... lengths) {
    BaledShade x = new BaledShade();
    x.thing(99, 1, 0);
    x.barn(999);
    rule(x, "long 999;");
    int[] unlike = Arrays.stream(lengths).distinct().toArray();
    for (int i = 0; i < 4; i++) x.reaper(unlike[i % unlike.length]);
    for (int length : lengths) {
      if (!cutOf(x, length)) {
        x.hour(1);
        due("a BALE of " + length + " to begin with", cutOf(x, length), true);
      }
    }
    due("DAY to begin with", x.about(4), 0);
    return x;
  }

  private static boolean cutOf(BaledShade x, int length) {
    for (int r = 0; r < 4; r++) {
      if (x.ofReaper(r, 0) == length && x.cut(0, r, 0) != NONE) return true;
    }
    return false;
  }

  static void hours(BaledShade x, int n) {
    for (int left = n; left > 0; left -= 60) x.hour(Math.min(60, left));
  }

  /** What is told, and all that STEPS change. */
  static String state(BaledShade x) {
    StringBuilder all = new StringBuilder();
    for (int i = 0; i < 13; i++) all.append(x.about(i)).append(' ');
    for (int t = 0; t < 8; t++) all.append(x.of(t, 3)).append(' ');
    for (int r = 0; r < 4; r++) all.append(x.ofReaper(r, 1)).append(x.ofReaper(r, 2)).append(' ');
    for (int b = 0; b < 12; b++) {
      for (int what = 0; what < 4; what++) all.append(x.bale(b, what)).append(what == 3 ? '|' : ' ');
    }
    return all.toString();
  }

  /** The call answers so, and nothing is changed. */
  static void dueStill(String call, BaledShade x, IntSupplier answer, int want) {
    String before = state(x);
    due(call, answer.getAsInt(), want);
    String behind = state(x);
    due(call + " changes nothing (" + before + " / " + behind + ")", behind.equals(before), true);
  }

  static void dueAbout(BaledShade x, String when, int... all) {
    for (int i = 0; i < all.length; i++) due("about(" + i + ") " + when, x.about(i), all[i]);
  }

  /** What is beyond a range answers so; its ends answer otherwise. */
  static void range(String what, int least, int greatest, int refused, IntUnaryOperator call) {
    beyond(what, least, greatest, refused, call);
    for (int v : new int[] {least, greatest}) due(what + " of " + v + " is taken", call.applyAsInt(v) != refused, true);
  }

  static void beyond(String what, int least, int greatest, int refused, IntUnaryOperator call) {
    int[] outside = {least - 1, greatest + 1, least + 256 * 64, least + 65536, -65536 + least, Integer.MIN_VALUE, Integer.MAX_VALUE};
    for (int v : outside) due(what + " of " + v, call.applyAsInt(v), refused);
  }

  // ---- texts

  static void write(BaledShade x, String text) {
    byte[] bytes = text.getBytes(StandardCharsets.ISO_8859_1);
    byte[] padded = Arrays.copyOf(bytes, 320);
    x.end(0);
    for (int i = 0; i < bytes.length; i += 20) {
      ByteBuffer b = ByteBuffer.wrap(padded, i, 20);
      x.feed(b.getInt(), b.getInt(), b.getInt(), b.getInt(), b.getInt());
    }
    due("end(" + bytes.length + ") of " + text, x.end(bytes.length), bytes.length);
  }

  static int tell(BaledShade x, String text) {
    write(x, text);
    return x.text();
  }

  /** The text is told and rules. */
  static void rule(BaledShade x, String text) {
    int n = tell(x, text);
    if (n == NONE) due("text() of " + text, n, 0);
    due("by(" + n + ")", x.by(n), true);
  }

  static void dueFault(String text, int fault, int place) {
    BaledShade x = new BaledShade();
    due("text() of " + text, tell(x, text), fault == 0 ? 0 : NONE);
    due("fault(0) of " + text, x.fault(0), fault);
    due("fault(1) of " + text, x.fault(1), place);
    due("about(12) behind " + text, x.about(12), 0);
    due("about(8) behind " + text, x.about(8), fault == 0 ? 1 : 0);
  }

  static void fine(String text) { dueFault(text, 0, NONE); }
}
