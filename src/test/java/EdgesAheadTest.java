import java.math.BigInteger;

/** Terms III, sentence by sentence: what is foretold and counted changes nothing, and its bounds; the IMAGE. */
public final class EdgesAheadTest extends Helpers {
  public static void main(String[] args) {
    foretold();
    foretoldAsItComes();
    mostBounds();
    mostWhat();
    mostOfLikeOnes();
    mostAtTheEnds();
    needs();
    unmetDays();
    unmetFeet();
    enough();
    overBounds();
    overDays();
    overOfLikeOnes();
    whose();
    leave();
    leaveSets();
    packedBounds();
    packed();
    packedOfLikeOnes();
    when();
    hail();
    image();
    imageOfAll();
    imageOfTexts();
    close("EdgesAheadTest");
  }

  /** At HOUR 9 of DAY 999. */
  private static BaledShade atTheEnd(BaledShade x) {
    hours(x, 9999 - x.about(4) * 10 - x.about(3));
    due("HOUR at the end", x.about(3), 9);
    due("DAY at the end", x.about(4), 999);
    return x;
  }

  // ---- FORETOLD

  private static void foretold() {
    heading("FORETOLD behind n HOURS (1 .. 60)");
    range("n of foretold", 1, 60, NONE, v -> six().foretold(v, 0));
    range("n of stored", 1, 60, NONE, v -> six().stored(v, 0));
    beyond("THING of foretold", 0, 1, NONE, v -> six().foretold(1, v));
    beyond("BARN of stored", 0, 1, NONE, v -> six().stored(1, v));
    due("without THINGS", new BaledShade().foretold(1, 0), NONE);
    due("without BARNS", new BaledShade().stored(1, 0), NONE);
    heading("FORETOLD: changes nothing");
    BaledShade x = six();
    int[] grown = {x.of(0, 3), x.of(1, 3)};
    dueStill("foretold(60, 0)", x, () -> x.foretold(60, 0), Math.min(100, grown[0] + 50));
    dueStill("foretold(60, 1)", x, () -> x.foretold(60, 1), Math.min(100, grown[1] + 50));
    dueStill("stored(60, 0)", x, () -> x.stored(60, 0), 60 - 18);
    heading("FORETOLD: those that can pass do");
    BaledShade late = atTheEnd(small());
    late.cut(0, 0, 0);
    int now = late.of(0, 3);
    int feet = late.ofBarn(0, 1);
    for (int n : new int[] {1, 60}) {
      dueStill("foretold(" + n + ", 0)", late, () -> late.foretold(n, 0), now);
      dueStill("stored(" + n + ", 0)", late, () -> late.stored(n, 0), feet);
    }
    BaledShade one = lengths(30);
    rule(one, "grows 9;spoils 1;");
    hours(one, 9000);
    one.sell(0);
    hours(one, 989);
    due("DAY", one.about(4), 998);
    one.cut(0, 0, 0);
    due("the last DAY begins", one.stored(1, 0), 29);
    due("and no other", one.stored(60, 0), 29);
    heading("FORETOLD: FEET of BALES that are none by then");
    BaledShade y = lengths(2, 1, 4);
    int[] left = {7, 4, 2, 1, 0};
    for (int d = 0; d < 5; d++) due("behind " + d + " DAYS", y.stored(Math.max(1, d * 10), 0), left[d]);
  }

  private static void foretoldAsItComes() {
    heading("FORETOLD as it comes");
    BaledShade x = six();
    rule(x, "grows cloud*3+kind;spoils here+dark;");
    x.image();
    for (int n = 1; n <= 60; n++) {
      int grown = x.foretold(n, 1);
      int feet = x.stored(n, 1);
      x.hour(n);
      due("GROWN behind " + n, x.of(1, 3), grown);
      due("FEET behind " + n, x.ofBarn(1, 1), feet);
      x.back();
    }
  }

  // ---- THE MOST

  private static void mostBounds() {
    heading("THE MOST in n HOURS (1 .. 4)");
    range("n of most", 1, 4, NONE, v -> six().most(0, 0, v, NONE));
    beyond("REAPER of most", 0, 2, NONE, v -> six().most(v, 0, 1, NONE));
    beyond("BARN of most", 0, 1, NONE, v -> six().most(0, v, 1, NONE));
    for (int n = 1; n <= 4; n++) {
      int hours = n;
      beyond("i of most in " + n, -1, n - 1, NONE, v -> six().most(0, 0, hours, v));
      for (int i = 0; i < n; i++) due("i of most in " + n, six().most(0, 0, n, i) != NONE, true);
    }
    due("without REAPERS", new BaledShade().most(0, 0, 1, NONE), NONE);
    BaledShade bare = new BaledShade();
    bare.reaper(1);
    due("without BARNS", bare.most(0, 0, 1, NONE), NONE);
    bare.barn(1);
    due("without THINGS", bare.most(0, 0, 4, NONE), 0);
    due("without THINGS", bare.most(0, 0, 4, 3), 8);
    heading("THE MOST: changes nothing");
    BaledShade x = six();
    x.hour(7);
    dueStill("over a DAY", x, () -> x.most(2, 1, 4, NONE), 120);
    dueStill("over a DAY", x, () -> x.most(2, 1, 4, 3), 0);
  }

  private static void mostWhat() {
    heading("THE MOST: what can't be CUT isn't");
    BaledShade cutAlready = small();
    cutAlready.thing(20, 1, 0);
    cutAlready.cut(0, 0, 0);
    cutAlready.barn(999);
    due("it has CUT in this HOUR", cutAlready.most(0, 1, 1, NONE), 0);
    due("it has CUT in this HOUR", cutAlready.most(0, 1, 1, 0), 8);
    due("but not in the next", cutAlready.most(0, 1, 2, NONE), 30);
    due("but not in the next", cutAlready.most(0, 1, 2, 1), 1);
    BaledShade gone = small();
    gone.last(0, 0);
    due("gone", gone.most(0, 0, 4, NONE), 0);
    for (int i = 0; i < 4; i++) due("gone", gone.most(0, 0, 4, i), 8);
    BaledShade may = small();
    rule(may, "may hour=2;");
    due("may is so at HOUR 2 alone", may.most(0, 0, 4, NONE), 20);
    for (int i = 0; i < 4; i++) due("may is so at HOUR 2 alone", may.most(0, 0, 4, i), i == 2 ? 0 : 8);
    BaledShade room = with(10, 30, 29);
    due("a foot too much for the ROOM: at HOUR 1 it is less", room.most(0, 0, 2, NONE), 25);
    due("a foot too much for the ROOM", room.most(0, 0, 1, NONE), 0);
    room.barn(30);
    due("just the ROOM", room.most(0, 1, 1, NONE), 30);
    BaledShade full = lengths(5, 5, 5, 5, 5, 5, 5, 5, 5, 5, 5, 5);
    full.hour(1);
    due("no BALE is none", full.most(0, 0, 4, NONE), 0);
    full.sell(3);
    due("one is", full.most(0, 0, 4, NONE), 5);
    due("of like ones none ahead of all", full.most(0, 0, 4, 0), 8);
    due("of like ones none ahead of all", full.most(0, 0, 4, 3), 0);
    BaledShade reach = with(10, 1, 50);
    due("REACH at most", reach.most(0, 0, 4, NONE), 4);
    heading("THE MOST: then the HOUR passes, with a new DAY too");
    BaledShade night = lengths(1, 1, 1, 1, 1, 1, 1, 1, 1, 1, 1, 1);
    night.hour(7);
    due("HOUR", night.about(3), 9);
    due("all BALES are none behind the night", night.most(0, 0, 2, NONE), 1);
    due("the second HOUR", night.most(0, 0, 2, 1), 0);
    due("not in the first", night.most(0, 0, 2, 0), 8);
    BaledShade grow = small();
    rule(grow, "long grown/10;grows 100;");
    grow.cut(0, 0, 0);
    grow.hour(9);
    due("grown behind the night", grow.most(0, 0, 2, NONE), 10);
  }

  private static void mostOfLikeOnes() {
    heading("THE MOST: of like ones by HOURS, none ahead of all, then the lowest THING");
    BaledShade x = with(10, 9, 999);
    x.thing(10, 1, 0);
    x.thing(10, 1, 0);
    for (int i = 0; i < 2; i++) due("the lowest THING in each HOUR", x.most(0, 0, 2, i), 0);
    BaledShade once = with(10, 9, 9);
    once.thing(10, 1, 0);
    for (int n = 1; n <= 4; n++) {
      due("once in all", once.most(0, 0, n, NONE), 9);
      for (int i = 0; i < n; i++) due("none ahead of all in " + n, once.most(0, 0, n, i), i == n - 1 ? 0 : 8);
    }
    BaledShade none = with(1, 9, 9);
    none.hour(5);
    due("nothing at all", none.most(0, 0, 1, NONE), 0);
    due("nothing at all", none.most(0, 0, 1, 0), 8);
    BaledShade two = with(10, 30, 30);
    rule(two, "long kind;");
    two.thing(10, 2, 0);
    two.thing(10, 3, 0);
    two.thing(10, 3, 0);
    due("the most ahead of the lowest", two.most(0, 0, 1, 0), 2);
    due("the sum", two.most(0, 0, 4, NONE), 12);
    for (int i = 0; i < 4; i++) due("the lowest of like ones", two.most(0, 0, 4, i), 2);
  }

  private static void mostAtTheEnds() {
    heading("THE MOST: the HOUR passes (if it can)");
    BaledShade x = atTheEnd(with(10, 9, 999));
    due("the REAPER CUTS once", x.most(0, 0, 4, NONE), 9);
    due("none ahead of all", x.most(0, 0, 4, 0), 8);
    due("in the last", x.most(0, 0, 4, 3), 0);
    x.cut(0, 0, 0);
    dueStill("it has CUT", x, () -> x.most(0, 0, 4, NONE), 0);
    x.undo();
    x.undo();
    due("HOUR", x.about(3), 8);
    due("one HOUR can pass", x.most(0, 0, 4, NONE), 18);
    due("in the first", x.most(0, 0, 4, 0), 0);
    due("not in the second", x.most(0, 0, 4, 1), 8);
    due("in the last", x.most(0, 0, 4, 3), 0);
    heading("THE MOST of eight THINGS in four HOURS");
    BaledShade y = new BaledShade();
    for (int t = 0; t < 8; t++) y.thing(t + 1, 1, 0);
    y.reaper(99);
    y.barn(999);
    // at HOURS 0 .. 3 by HEIGHT 3, 2.5, 2, 1.5, cut: 24, 17, 12, 7, like 21, 20, 10, 9 of lower ones
    due("the most", y.most(0, 0, 4, NONE), 60);
    int[] lowest = {6, 7, 4, 5};
    for (int i = 0; i < 4; i++) due("the lowest of like ones", y.most(0, 0, 4, i), lowest[i]);
  }

  // ---- NEEDS

  private static void needs() {
    heading("NEEDS (8 at most; told): a DAY, FEET 1 .. 999");
    range("DAY", 0, 999, -2, v -> v == NONE ? -2 : new BaledShade().need(v, 1));
    range("FEET", 1, 999, -2, v -> new BaledShade().need(1, v));
    BaledShade x = new BaledShade();
    due("none any more of none", x.need(NONE, 1), 0);
    for (int i = 1; i <= 8; i++) due("need", x.need(i, i), i);
    dueStill("a ninth", x, () -> x.need(1, 1), -2);
    dueStill("a ninth that is for others", x, () -> x.need(-2, 1), -2);
    due("none any more, whatever FEET", x.need(NONE, -7), 0);
    due("NEEDS", x.about(11), 0);
    dueStill("for others", x, () -> x.need(1000, 1), -2);
    due("anew", x.need(1, 1), 1);
  }

  private static void unmetDays() {
    heading("UNMET over n DAYS (1 .. 20)");
    BaledShade bare = new BaledShade();
    for (int v : new int[] {-1, 0, 1, 20, 21, Integer.MIN_VALUE, Integer.MAX_VALUE}) due("without NEEDS: " + v, bare.unmet(v), NONE);
    bare.need(1, 1);
    for (int v : new int[] {-1, 0, 21, 22, 65537, Integer.MIN_VALUE, Integer.MAX_VALUE}) due("for others: " + v, bare.unmet(v), NONE);
    for (int v : new int[] {1, 20}) due("without BALES: " + v, bare.unmet(v), 0);
    for (int day = 0; day <= 22; day++) {
      BaledShade x = small();
      x.need(day, 1);
      for (int n = 1; n <= 20; n++) due("a NEED of DAY " + day + " over " + n, x.unmet(n), day >= 1 && day <= n ? 0 : NONE);
    }
    heading("UNMET: from now on, as each new DAY begins");
    for (int hour = 0; hour <= 9; hour++) {
      BaledShade x = small();
      hours(x, 10 + hour);
      x.need(1, 1);
      due("of this DAY at HOUR " + hour, x.unmet(20), NONE);
      x.need(2, 1);
      due("of the next at HOUR " + hour, x.unmet(1), 1);
      x.need(NONE, 0);
      x.need(3, 1);
      due("of the one behind it at HOUR " + hour, x.unmet(1), NONE);
      due("over two at HOUR " + hour, x.unmet(2), 0);
    }
    heading("UNMET: at the last DAY");
    BaledShade end = atTheEnd(small());
    for (int d : new int[] {0, 999}) end.need(d, 1);
    due("no DAY begins", end.unmet(20), NONE);
    end.undo();
    end.undo();
    due("no DAY begins", end.unmet(20), NONE);
    BaledShade ahead = small();
    hours(ahead, 9989);
    ahead.need(999, 1);
    due("the last one begins", ahead.unmet(1), 0);
    due("the last one begins", ahead.unmet(20), 0);
  }

  private static void unmetFeet() {
    heading("UNMET: (behind what it brings)");
    BaledShade x = lengths(30);
    x.need(1, 30);
    due("30 are 29 then", x.unmet(1), 0);
    x.need(NONE, 0);
    x.need(1, 29);
    due("just so many", x.unmet(1), NONE);
    x.need(1, 1);
    dueStill("a foot more", x, () -> x.unmet(1), 1);
    heading("UNMET: from all BALES, whatever BARN, if there are so many FEET in all");
    BaledShade y = six();
    y.need(1, 114);
    due("all six", y.unmet(1), NONE);
    y.need(1, 1);
    due("a foot more", y.unmet(1), 1);
    BaledShade much = lengths(80, 80, 80, 80, 80, 80, 80, 80, 80, 80, 80, 80);
    much.need(1, 948);
    due("twelve BALES", much.unmet(1), NONE);
    much.need(2, 1);
    due("nothing is left", much.unmet(2), 1);
    heading("UNMET: its NEEDS by number; the first that can't be");
    BaledShade z = lengths(51);
    z.need(1, 51);
    z.need(1, 50);
    due("the lowest number", z.unmet(1), 0);
    z.need(NONE, 0);
    z.need(3, 999);
    z.need(1, 40);
    z.need(2, 10);
    z.need(1, 11);
    due("the first DAY", z.unmet(20), 3);
    z.need(NONE, 0);
    z.need(3, 999);
    z.need(1, 40);
    z.need(2, 10);
    due("then the next DAY", z.unmet(20), 2);
    heading("UNMET: of like ones the lowest");
    BaledShade like = lengths(10, 20);
    like.need(1, 10);
    like.need(2, 17);
    due("one BALE is left, that spoils by 1", like.unmet(2), NONE);
    like.need(2, 1);
    due("and no foot more", like.unmet(2), 2);
    heading("UNMET: the greatest DARK first");
    BaledShade dark = lengths(20, 10);
    rule(dark, "spoils 0;");
    dark.hour(10);
    dark.sell(0);
    dark.cut(0, 0, 0);
    dark.by(NONE);
    dark.need(2, 10);
    dark.need(3, 17);
    due("one BALE is left, that spoils by 1", dark.unmet(3), NONE);
    dark.need(3, 1);
    due("and no foot more", dark.unmet(3), 2);
  }

  // ---- ENOUGH

  private static void enough() {
    heading("ENOUGH: so many FEET (1 .. 9999), n HOURS (0 .. 60, as FORETOLD)");
    beyond("FEET", 1, 9999, NONE, v -> six().enough(v, 0));
    range("n", 0, 60, NONE, v -> six().enough(1, v));
    due("9999", six().enough(9999, 0), NONE);
    due("without BALES", new BaledShade().enough(1, 0), NONE);
    heading("ENOUGH: the fewest BALES; of like ones the lowest set (bits); none");
    BaledShade x = lengths(3, 5, 5, 4);
    int[] sets = {1, 1, 1, 2, 2, 3, 3, 3, 6, 6, 7, 7, 7, 14, 15, 15, 15, NONE};
    for (int feet = 1; feet <= sets.length; feet++) {
      int least = NONE;
      for (int set = 15; set >= 1; set--) {
        int sum = 0;
        for (int b = 0; b < 4; b++) sum += (set >> b & 1) * new int[] {3, 5, 5, 4}[b];
        if (sum >= feet && (least == NONE || Integer.bitCount(set) <= Integer.bitCount(least))) least = set;
      }
      due("enough(" + feet + ", 0)", x.enough(feet, 0), least);
      due("enough(" + feet + ", 0) by hand", x.enough(feet, 0), sets[feet - 1]);
    }
    BaledShade all = lengths(9, 9, 9, 9, 9, 9, 9, 9, 9, 9, 9, 9);
    for (int n = 1; n <= 12; n++) {
      due("the lowest " + n, all.enough(n * 9, 0), (1 << n) - 1);
      due("a foot more", all.enough(n * 9 + 1, 0), n == 12 ? NONE : (2 << n) - 1);
    }
    heading("ENOUGH: behind n HOURS");
    BaledShade y = lengths(3, 5);
    due("on this DAY", y.enough(5, 0), 2);
    due("at HOUR 9", y.enough(5, 9), 2);
    due("on the next DAY both", y.enough(5, 10), 3);
    due("on the one behind it none", y.enough(5, 20), NONE);
    dueStill("one of them is none by then", y, () -> y.enough(1, 40), 2);
    due("both are", y.enough(1, 50), NONE);
    BaledShade end = lengths(3);
    hours(end, 5000);
    end.cut(0, 0, 0);
    atTheEnd(end);
    due("those that can pass", end.enough(1, 60), end.bale(0, 1) > 0 ? 1 : NONE);
    BaledShade fresh = atTheEnd(small());
    fresh.cut(0, 0, 0);
    due("those that can pass", fresh.enough(25, 60), 1);
  }

  // ---- OVER DAYS

  private static void overBounds() {
    heading("OVER DAYS: n DAYS (1 .. 8), a told HOUR, what 0, 1");
    range("n", 1, 8, NONE, v -> six().over(0, v, 0, 0));
    range("hour", 0, 9, NONE, v -> six().over(0, 1, v, 0));
    range("what", 0, 1, NONE, v -> six().over(0, 1, 0, v));
    range("THING", 0, 1, NONE, v -> six().over(v, 1, 0, 0));
    due("without THINGS", new BaledShade().over(0, 1, 0, 0), NONE);
    BaledShade x = six();
    dueStill("it changes nothing", x, () -> x.over(0, 8, 9, 1), x.over(0, 8, 9, 1));
    heading("OVER DAYS: without REAPERS and BARNS, whatever may says");
    BaledShade y = new BaledShade();
    y.thing(10, 1, 0);
    due("a SHADOW", y.over(0, 1, 0, 0), 30);
    rule(y, "may 1<1;");
    due("a SHADOW", y.over(0, 1, 0, 0), 30);
    due("DAYS", y.over(0, 1, 0, 1), 1);
  }

  private static void overDays() {
    heading("OVER DAYS: at a told HOUR, all of its SHADOW");
    BaledShade x = new BaledShade();
    x.thing(99, 1, 0);
    int[] shadows = {297, 247, 198, 148, 99, 49, 99, 148, 198, 247};
    for (int h = 0; h < 10; h++) due("at HOUR " + h, x.over(0, 1, h, 0), shadows[h]);
    heading("OVER DAYS: GROWN is 0 then; GROWN more by grows (100 at most)");
    rule(x, "long grown;grows 40;");
    int[] most = {100, 140, 180, 220, 260, 300, 340, 380};
    for (int n = 1; n <= 8; n++) {
      due("over " + n, x.over(0, n, 0, 0), most[n - 1]);
    }
    // none and then 80 is like 40 and 40
    due("DAYS", x.over(0, 8, 0, 1), 213);
    rule(x, "long grown;grows 0;");
    due("once", x.over(0, 8, 0, 0), 100);
    due("on the last DAY", x.over(0, 8, 0, 1), 128);
    rule(x, "long grown;grows 100;");
    due("each DAY", x.over(0, 8, 0, 0), 800);
    x = new BaledShade();
    x.thing(99, 1, 0);
    rule(x, "long grown*day/day;grows 1;");
    due("100 at most, there being no SHADOW on DAY 0", x.over(0, 2, 0, 0), 100);
    due("on DAY 1", x.over(0, 2, 0, 1), 2);
    rule(x, "long grown*day/day;grows 100;");
    due("100 at most", x.over(0, 3, 0, 0), 200);
    BaledShade cut = with(10, 7, 50);
    cut.cut(0, 0, 0);
    rule(cut, "long grown*day;grows 22;");
    due("77 and 22", cut.over(0, 2, 0, 0), 99);
    for (String law : new String[] {"long grown*day;grows 23;", "long grown*day;grows 24;"}) {
      rule(cut, law);
      due("100 at most by " + law, cut.over(0, 2, 0, 0), 100);
    }
    heading("OVER DAYS: from this one on (GROWN as now)");
    BaledShade y = small();
    y.cut(0, 0, 0);
    due("GROWN is 0", y.over(0, 1, 0, 0), 0);
    due("of like ones none", y.over(0, 1, 0, 1), 0);
    due("10 on the next DAY", y.over(0, 2, 0, 0), 3);
    due("on the next DAY", y.over(0, 2, 0, 1), 2);
    heading("OVER DAYS: DAY one more");
    BaledShade z = small();
    rule(z, "long day*100;");
    z.hour(10);
    for (int n = 1; n <= 8; n++) due("over " + n, z.over(0, n, 0, 0), n * (n + 1) / 2 * 100);
    due("DAYS", z.over(0, 8, 0, 1), 255);
    BaledShade end = atTheEnd(small());
    rule(end, "long 1;");
    due("behind the last DAY", end.over(0, 8, 0, 0), 8);
    heading("OVER DAYS: CLOUD always as now, whatever it is");
    for (int[] d : new int[][] {{1, 3}, {4, 9}, {7, 8}, {8, 0}, {22, 7}}) {
      BaledShade c = small();
      hours(c, d[0] * 10);
      due("CLOUD", c.about(5), d[1]);
      rule(c, "long grown+cloud;grows cloud+1;");
      due("under " + d[1], c.over(0, 2, 0, 0), 100 + d[1] + d[1] + 1 + d[1]);
    }
  }

  private static void overOfLikeOnes() {
    heading("OVER DAYS: of like ones on the first DAYS none rather than CUT");
    BaledShade x = small();
    rule(x, "long grown/100;grows 0;");
    for (int n = 1; n <= 8; n++) {
      due("once", x.over(0, n, 0, 0), 1);
      due("on the last of " + n, x.over(0, n, 0, 1), 1 << n - 1);
    }
    rule(x, "long 0;");
    due("nothing", x.over(0, 8, 0, 0), 0);
    due("on none", x.over(0, 8, 0, 1), 0);
    // GROWN is 100 again four DAYS behind a CUT
    rule(x, "long grown/100*50;grows 25;");
    due("twice", x.over(0, 8, 0, 0), 100);
    due("on the fourth and the last", x.over(0, 8, 0, 1), 8 + 128);
  }

  // ---- WHOSE, AT WHICH

  private static void whose() {
    heading("WHOSE: of a KIND, a DAY, just so many FEET (1 .. 999)");
    for (int v : new int[] {-1, 6, 65536, Integer.MIN_VALUE, Integer.MAX_VALUE}) due("KIND " + v, small().whose(v, 30, 0), NONE);
    for (int v : new int[] {-1, 0, 1000, 65566, Integer.MIN_VALUE, Integer.MAX_VALUE}) due("FEET " + v, small().whose(1, v, 0), NONE);
    for (int v : new int[] {-1, 1000, 65536, Integer.MIN_VALUE, Integer.MAX_VALUE}) due("DAY " + v, small().whose(1, 30, v), NONE);
    for (int v : new int[] {-1, 1, 8, 65536, Integer.MIN_VALUE, Integer.MAX_VALUE}) due("THING " + v, small().at(v, 30, 0), NONE);
    for (int v : new int[] {-1, 0, 1000, 65566, Integer.MIN_VALUE, Integer.MAX_VALUE}) due("FEET " + v, small().at(0, v, 0), NONE);
    for (int v : new int[] {-1, 1000, 65536, Integer.MIN_VALUE, Integer.MAX_VALUE}) due("DAY " + v, small().at(0, 30, v), NONE);
    BaledShade x = new BaledShade();
    for (int t = 0; t < 8; t++) x.thing(t == 7 ? 99 : 10, t % 6, 0);
    due("without such ones", new BaledShade().whose(0, 1, 0), 0);
    for (int k = 0; k < 6; k++) due("KIND " + k, x.whose(k, 30, 0), k == 0 ? 65 : 1 << k);
    due("of THING 7", x.whose(1, 297, 0), 128);
    due("a foot less", x.whose(1, 296, 0), 0);
    due("a foot more", x.whose(1, 298, 0), 0);
    rule(x, "long day+kind*10-40;");
    due("FEET 999", x.whose(4, 999, 999), 16);
    due("FEET 1", x.whose(4, 1, 1), 16);
    due("held to 999", x.whose(5, 999, 989), 32);
    due("held to 999", x.whose(5, 999, 999), 32);
    due("0 isn't 1", x.whose(3, 1, 10), 0);
    heading("WHOSE: THINGS that are told");
    BaledShade few = new BaledShade();
    rule(few, "long 5;");
    due("none is", few.whose(0, 5, 0), 0);
    few.thing(9, 0, 0);
    due("one is", few.whose(0, 5, 0), 1);
    few.image();
    few.thing(9, 0, 0);
    due("two are", few.whose(0, 5, 0), 3);
    few.back();
    due("the second is gone", few.whose(0, 5, 0), 1);
    heading("WHOSE: at some HOUR; AT WHICH: the HOURS (bits)");
    rule(x, "long hour*9+1;");
    for (int h = 0; h < 10; h++) {
      due("at " + h, x.at(0, h * 9 + 1, 0), 1 << h);
      due("whose at " + h, x.whose(2, h * 9 + 1, 0), 4);
      due("not quite at " + h, x.at(0, h * 9 + 2, 0), 0);
    }
    heading("WHOSE: GROWN 100 and CLOUD 0, whatever they are");
    BaledShade y = small();
    hours(y, 40);
    y.cut(0, 0, 0);
    rule(y, "long grown+cloud*100;");
    due("of(0, 4)", y.of(0, 4), 900);
    dueStill("AT WHICH", y, () -> y.at(0, 100, 4), 1023);
    dueStill("WHOSE", y, () -> y.whose(1, 100, 4), 1);
  }

  // ---- LEAVE

  private static void leave() {
    heading("LEAVE: shares (0 .. 9999 each)");
    for (int i = 0; i < 4; i++) {
      int at = i;
      range("share " + i, 0, 9999, NONE, v -> fiveOwners().leave(at == 0 ? v : 0, at == 1 ? v : 0, at == 2 ? v : 0, at == 3 ? v : 0));
    }
    heading("LEAVE: the lowest set (bits, not none) that has more alone than its shares together; none");
    due("without THINGS", new BaledShade().leave(0, 0, 0, 0), NONE);
    BaledShade x = fiveOwners();
    due("a foot less than it has", x.leave(29, 9999, 9999, 9999), 1);
    due("just what it has", x.leave(30, 9999, 9999, 9999), NONE);
    due("OWNER 3, a foot less", x.leave(9999, 9999, 9999, 119), 8);
    due("OWNER 3, just what it has", x.leave(9999, 9999, 9999, 120), NONE);
    due("two, each by himself not", x.leave(30, 60, 9999, 9999), NONE);
    due("the lowest set", x.leave(29, 59, 89, 119), 1);
    due("the greatest shares", x.leave(9999, 9999, 9999, 9999), NONE);
    BaledShade y = new BaledShade();
    for (int t = 0; t < 8; t++) y.thing(99, 1, 2);
    due("all THINGS of one", y.leave(0, 0, 8 * 297 - 1, 0), 4);
    due("all THINGS of one", y.leave(0, 0, 8 * 297, 0), NONE);
    heading("LEAVE: SHADOWS as now");
    x.hour(5);
    due("a foot less than it has", x.leave(4, 9999, 9999, 9999), 1);
    dueStill("just what it has", x, () -> x.leave(5, 9999, 9999, 9999), NONE);
    BaledShade cut = with(10, 30, 50);
    cut.cut(0, 0, 0);
    due("nothing is left", cut.leave(0, 0, 0, 0), NONE);
  }

  /** OWNERS 0 .. 3 have 30, 60, 90, 120, the commons 150. */
  private static BaledShade fiveOwners() {
    BaledShade x = new BaledShade();
    for (int o = 0; o < 5; o++) x.thing(10 * (o + 1), 1, o);
    return x;
  }

  private static void leaveSets() {
    heading("LEAVE: and of those of the commons, if they are three or more");
    BaledShade x = fiveOwners();
    int[] has = {30, 60, 90, 120};
    // two or four of them have no more together than one or three of them have, and those are lower
    for (int set : new int[] {1, 2, 4, 7, 8, 11, 13, 14}) {
      int alone = Integer.bitCount(set) >= 3 ? 150 : 0;
      for (int o = 0; o < 4; o++) alone += (set >> o & 1) * has[o];
      // the shares of the set together are a foot less than, then just what it has: the lowest of it bears the commons' part
      for (int more = -1; more <= 0; more++) {
        int[] shares = {9999, 9999, 9999, 9999};
        int left = alone + more;
        int lowest = Integer.numberOfTrailingZeros(set);
        for (int o = 3; o > lowest; o--) {
          if ((set >> o & 1) == 1) {
            shares[o] = Math.min(left, has[o]);
            left -= shares[o];
          }
        }
        shares[lowest] = left;
        int want = more == 0 ? NONE : set;
        due("leave of " + set + ", " + more, x.leave(shares[0], shares[1], shares[2], shares[3]), want);
      }
    }
    BaledShade commons = new BaledShade();
    commons.thing(10, 1, 4);
    due("three of them, the lowest", commons.leave(0, 0, 0, 0), 7);
    due("three of them", commons.leave(30, 0, 0, 0), 14);
    due("all four", commons.leave(10, 10, 10, 10), NONE);
    due("all four", commons.leave(8, 8, 8, 5), 7);
    due("not all three", commons.leave(10, 10, 10, 9), 11);
    due("0, 2 and 3", commons.leave(10, 30, 10, 9), 13);
  }

  // ---- PACKED

  private static void packedBounds() {
    heading("PACKED: BALES of a set (1 to 6)");
    BaledShade x = lengths(5, 5, 5, 5, 5, 5, 5, 5, 5, 5, 5, 5);
    int[] sets = {1, 2048, 63, 4032, 0b101010101010, 0b000111111, 64, 127, 4095, 0b111111100000, 0, -1, 4096, 4097, 1 << 31, Integer.MAX_VALUE};
    for (int set : sets) {
      boolean fine = set > 0 && set < 4096 && Integer.bitCount(set) <= 6;
      due("how many of " + set, x.packed(set, NONE), fine ? 1 : NONE);
      for (int i = 0; i < 7; i++) due("of " + set + " BALE " + i, x.packed(set, i), fine && i < Integer.bitCount(set) ? 0 : NONE);
    }
    for (int i : new int[] {-2, 6, 12, Integer.MIN_VALUE, Integer.MAX_VALUE}) due("BALE " + i, x.packed(63, i), NONE);
    heading("PACKED: a BALE that is none");
    x.sell(3);
    due("with it", x.packed(15, NONE), NONE);
    due("without it", x.packed(23, NONE), 1);
    due("it alone", x.packed(8, 0), NONE);
    for (int b : new int[] {0, 11}) {
      x.sell(b);
      due("BALE " + b, x.packed(1 << b, NONE), NONE);
      due("BALE " + b + " with another", x.packed(1 << b | 2, 0), NONE);
    }
    due("without BALES", new BaledShade().packed(1, NONE), NONE);
  }

  private static void packed() {
    heading("PACKED: none with more than its ROOM");
    BaledShade x = lengths(20, 20);
    x.barn(39);
    x.barn(40);
    due("in the lowest", x.packed(3, NONE), 1);
    due("in the lowest", x.packed(3, 0), 0);
    BaledShade y = new BaledShade();
    y.thing(99, 1, 0);
    y.reaper(20);
    y.reaper(20);
    int[] rooms = {39, 19, 20, 40};
    for (int room : rooms) y.barn(room);
    y.cut(0, 0, 0);
    y.cut(0, 1, 3);
    due("just the ROOM of BARN 3", y.packed(3, NONE), 1);
    for (int i = 0; i < 2; i++) due("BALE " + i, y.packed(3, i), 3);
    BaledShade tight = new BaledShade();
    tight.thing(99, 1, 0);
    tight.reaper(20);
    tight.reaper(20);
    tight.barn(39);
    tight.barn(20);
    tight.cut(0, 0, 0);
    tight.cut(0, 1, 1);
    due("two BARNS", tight.packed(3, NONE), 2);
    due("BALE 0 in the lowest", tight.packed(3, 0), 0);
    due("BALE 1", tight.packed(3, 1), 1);
    heading("PACKED: all other BALES aside");
    BaledShade full = with(10, 30, 30);
    full.barn(30);
    full.reaper(30);
    full.cut(0, 0, 0);
    full.last(1, 1);
    due("where the other one is", full.packed(2, 0), 0);
    dueStill("where the other one is", full, () -> full.packed(1, 0), 0);
    heading("PACKED: into BARNS that are told");
    BaledShade told = with(10, 30, 60);
    told.reaper(30);
    told.cut(0, 0, 0);
    told.last(1, 0);
    told.image();
    due("two KINDS, one BARN", told.packed(3, NONE), NONE);
    told.barn(30);
    due("two BARNS", told.packed(3, NONE), 2);
    told.back();
    due("the second is gone", told.packed(3, NONE), NONE);
    due("one BALE", told.packed(2, 0), 0);
    told.barn(29);
    due("told anew with less ROOM", told.packed(3, NONE), NONE);
    told.barn(30);
    due("and a third", told.packed(3, 1), 2);
    heading("PACKED: none with two KINDS");
    BaledShade kinds = new BaledShade();
    for (int k = 0; k < 5; k++) kinds.thing(10, k, 0);
    for (int i = 0; i < 4; i++) kinds.reaper(1);
    for (int i = 0; i < 4; i++) kinds.barn(99);
    for (int k = 0; k < 5; k++) {
      kinds.cut(k, k % 4, 0);
      if (k == 3) kinds.hour(1);
    }
    kinds.cut(0, 1, 0);
    due("one", kinds.packed(1, NONE), 1);
    due("four", kinds.packed(15, NONE), 4);
    for (int i = 0; i < 4; i++) due("BALE " + i, kinds.packed(15, i), i);
    due("five", kinds.packed(31, NONE), NONE);
    due("five", kinds.packed(31, 0), NONE);
    due("0 and 5 are of one KIND", kinds.packed(33, NONE), 1);
    due("four KINDS of five", kinds.packed(47, NONE), 4);
    due("BALE 5 is where 0 is", kinds.packed(47, 4), 0);
  }

  private static void packedOfLikeOnes() {
    heading("PACKED: the fewest BARNS; of like ones the lowest BARN for the lowest BALE, then the next, ..");
    BaledShade x = new BaledShade();
    x.thing(99, 1, 0);
    x.reaper(10);
    x.reaper(20);
    x.reaper(30);
    for (int room : new int[] {30, 30, 60, 999}) x.barn(room);
    for (int r = 0; r < 3; r++) x.cut(0, r, 3);
    due("the fewest, not the lowest", x.packed(7, NONE), 1);
    for (int i = 0; i < 3; i++) due("BALE " + i, x.packed(7, i), 2);
    BaledShade y = new BaledShade();
    y.thing(99, 1, 0);
    y.reaper(10);
    y.reaper(20);
    y.reaper(30);
    for (int room : new int[] {30, 30, 30, 30}) y.barn(room);
    for (int r = 0; r < 3; r++) y.cut(0, r, r);
    due("two", y.packed(7, NONE), 2);
    int[] want = {0, 0, 1};
    for (int i = 0; i < 3; i++) due("BALE " + i, y.packed(7, i), want[i]);
    BaledShade z = new BaledShade();
    z.thing(99, 1, 0);
    z.reaper(10);
    z.reaper(20);
    z.reaper(30);
    for (int room : new int[] {10, 40, 50, 20}) z.barn(room);
    for (int r = 0; r < 3; r++) z.cut(0, r, r == 0 ? 0 : r == 1 ? 1 : 2);
    // two BARNS: 0 with 10 and 2 with 50 comes ahead of 1 with 40 and 2 with 20, and of 1 with 10
    due("two", z.packed(7, NONE), 2);
    int[] due = {0, 2, 2};
    for (int i = 0; i < 3; i++) due("BALE " + i, z.packed(7, i), due[i]);
  }

  // ---- WHEN

  private static void when() {
    heading("WHEN to sell a BALE, in 0 .. n HOURS (60 at most)");
    range("n", 0, 60, NONE, v -> six().when(0, v, 0));
    range("what", 0, 1, NONE, v -> six().when(0, 1, v));
    beyond("BALE", 0, 5, NONE, v -> six().when(v, 1, 0));
    for (int b = 6; b < 12; b++) due("a BALE that is none", six().when(b, 1, 0), NONE);
    BaledShade x = small();
    x.cut(0, 0, 0);
    rule(x, "sells day*10+hour;spoils 0;");
    for (int n = 0; n <= 60; n++) {
      due("the last of " + n, x.when(0, n, 0), n);
      due("its pence", x.when(0, n, 1), n);
    }
    heading("WHEN: the first HOUR from now at which sells is most");
    rule(x, "sells 7;spoils 0;");
    due("now", x.when(0, 60, 0), 0);
    rule(x, "sells hour/9*5;spoils 0;");
    due("the first of six", x.when(0, 60, 0), 9);
    dueStill("its pence", x, () -> x.when(0, 60, 1), 5);
    due("none of them", x.when(0, 8, 0), 0);
    due("none of them", x.when(0, 8, 1), 0);
    x.hour(9);
    due("from now", x.when(0, 60, 0), 0);
    BaledShade y = small();
    y.cut(0, 0, 0);
    rule(y, "sells 9999*day;spoils 0;");
    due("held to 9999", y.when(0, 60, 0), 10);
    due("held to 9999", y.when(0, 60, 1), 9999);
    heading("WHEN: a BALE that is none by then isn't SOLD");
    for (int spoils : new int[] {9, 10, 11, 29, 30, 999}) {
      BaledShade z = small();
      z.cut(0, 0, 0);
      rule(z, "sells day*10+hour;spoils " + spoils + ";");
      int days = (30 + spoils - 1) / spoils;
      due("spoiled by " + spoils, z.when(0, 60, 0), Math.min(60, days * 10 - 1));
      due("its pence", z.when(0, 60, 1), Math.min(60, days * 10 - 1));
    }
    heading("WHEN: those that can pass");
    BaledShade end = atTheEnd(small());
    end.cut(0, 0, 0);
    rule(end, "sells hour;");
    for (int n : new int[] {0, 1, 60}) {
      due("none can", end.when(0, n, 0), 0);
      due("none can", end.when(0, n, 1), 9);
    }
    BaledShade ahead = small();
    hours(ahead, 9996);
    ahead.cut(0, 0, 0);
    rule(ahead, "sells hour;");
    due("three can", ahead.when(0, 60, 0), 3);
  }

  // ---- HAIL

  private static void hail() {
    heading("HAIL: of n DAYS (1 .. 9) k at least (0 .. 9)");
    for (int i = 0; i < 2; i++) {
      boolean low = i == 1;
      range("n", 1, 9, NONE, v -> new BaledShade().hail(v, 1, low));
      range("k", 0, 9, NONE, v -> new BaledShade().hail(9, v, low));
    }
    heading("HAIL: the ODDS in lowest terms");
    for (int n = 1; n <= 9; n++) {
      for (int k = 0; k <= 9; k++) {
        BigInteger upper = BigInteger.ZERO;
        for (int days = 0; days < 1 << n; days++) {
          int hails = Integer.bitCount(days);
          if (hails >= k) upper = upper.add(BigInteger.TWO.pow(hails).multiply(BigInteger.valueOf(8).pow(n - hails)));
        }
        BigInteger lower = BigInteger.TEN.pow(n);
        BigInteger both = upper.gcd(lower);
        due("hail(" + n + ", " + k + ", false)", new BaledShade().hail(n, k, false), upper.divide(both).intValueExact());
        due("hail(" + n + ", " + k + ", true)", new BaledShade().hail(n, k, true), lower.divide(both).intValueExact());
      }
    }
    for (int n = 1; n <= 9; n++) {
      due("none at least is sure", new BaledShade().hail(n, 0, false) * 10 + new BaledShade().hail(n, 0, true), 11);
      if (n < 9) due("more than there are is never", new BaledShade().hail(n, n + 1, false) * 10 + new BaledShade().hail(n, n + 1, true), 1);
    }
    heading("HAIL: whatever DAY and CLOUD are now");
    BaledShade x = atTheEnd(small());
    due("at the end", x.hail(9, 9, true), 1953125);
    dueStill("at the end", x, () -> x.hail(9, 9, false), 1);
  }

  // ---- AN IMAGE

  private static void image() {
    heading("a new object: THE IMAGE is this");
    BaledShade x = six();
    x.need(1, 1);
    rule(x, "long 5;");
    hours(x, 35);
    due("back()", x.back(), 0);
    due("it is as new", state(x).equals(state(new BaledShade())), true);
    due("undo()", x.undo(), NONE);
    due("thing", x.thing(5, 5, 4), 0);
    due("a THING as told", x.of(0, 0) * 10 + x.of(0, 3), 150);
    due("a REAPER", x.reaper(7), 0);
    due("a BARN", x.barn(9), 0);
    due("cut", x.cut(0, 0, 0), 0);
    heading("THE IMAGE is as all is now: DAY; All is as at THE IMAGE again (it stays): DAY");
    BaledShade y = small();
    hours(y, 9999);
    due("image() on the last DAY", y.image(), 999);
    y.undo();
    due("back()", y.back(), 999);
    String then = state(y);
    y.cut(0, 0, 0);
    due("back()", y.back(), 999);
    due("back() once more", y.back(), 999);
    due("all is as it was", state(y).equals(then), true);
    heading("AN IMAGE behind another: the latest counts");
    BaledShade z = small();
    z.image();
    z.hour(3);
    z.image();
    z.hour(4);
    z.back();
    due("HOUR", z.about(3), 3);
    z.undo();
    z.back();
    due("HOUR", z.about(3), 3);
  }

  private static void imageOfAll() {
    heading("AN IMAGE: all as it is, STEPS as well");
    BaledShade x = six();
    x.hour(40);
    x.need(7, 70);
    x.need(8, 80);
    rule(x, "long grown;");
    due("STEPS", x.about(10), 30);
    due("image()", x.image(), 4);
    String then = state(x);
    x.thing(1, 1, 1);
    x.reaper(1);
    x.barn(1);
    x.cut(2, 3, 2);
    x.last(0, 0);
    x.use(3, 0);
    x.move(3, 0);
    x.sell(5);
    x.hour(60);
    x.decades(3, 30);
    x.need(NONE, 0);
    x.need(9, 9);
    rule(x, "long 1;");
    x.back();
    due("all is as it was: " + state(x) + " / " + then, state(x).equals(then), true);
    due("SHADOW by THE TEXT", x.of(0, 4), x.of(0, 3));
    due("NEEDS: 78 feet are left on DAY 7", x.unmet(3), NONE);
    due("NEEDS: 8 on DAY 8", x.unmet(4), 1);
    due("a NEED more", x.need(9, 9), 3);
    for (int i = 29; i >= 0; i--) due("undo()", x.undo(), i);
    due("undo()", x.undo(), NONE);
    due("HOURS", x.about(4) * 10 + x.about(3), 11);
    x.back();
    due("the STEPS stay in it", x.about(10), 30);
    due("undo()", x.undo(), 29);
    heading("AN IMAGE: what was told behind it is told anew");
    BaledShade y = small();
    y.hour(1);
    y.image();
    y.thing(20, 2, 2);
    y.reaper(20);
    y.barn(20);
    y.cut(1, 1, 1);
    y.last(1, 0);
    y.back();
    due("THING 1", y.of(1, 0), NONE);
    due("REAPER 1", y.ofReaper(1, 0), NONE);
    due("BARN 1", y.ofBarn(1, 0), NONE);
    due("thing", y.thing(30, 3, 3), 1);
    due("reaper", y.reaper(3), 1);
    due("barn", y.barn(33), 1);
    int[] want = {30, 3, 3, 100};
    for (int i = 0; i < 4; i++) due("of(1, " + i + ")", y.of(1, i), want[i]);
    due("ofReaper(1, 1)", y.ofReaper(1, 1), 1);
    due("ofReaper(1, 2)", y.ofReaper(1, 2), 0);
    y.undo();
    due("of(1, 3) ahead of a STEP", y.of(1, 3), 100);
    due("ofReaper(1, 1) ahead of a STEP", y.ofReaper(1, 1), 1);
  }

  private static void imageOfTexts() {
    heading("AN IMAGE: but the tape and the latest FAULT");
    BaledShade x = new BaledShade();
    write(x, "hour 1;");
    x.image();
    x.end(0);
    x.back();
    due("the tape is not in it", x.about(12), 0);
    write(x, "  hour 0;");
    x.back();
    due("the tape stays", x.about(12), 9);
    x.text();
    x.back();
    due("the tape stays empty", x.about(12), 0);
    due("the latest FAULT stays", x.fault(0), 2);
    due("its place stays", x.fault(1), 7);
    BaledShade y = new BaledShade();
    tell(y, "x");
    y.image();
    tell(y, "");
    y.back();
    due("the latest FAULT is that of the latest text", y.fault(0), 0);
    heading("AN IMAGE: TEXTS told behind it are gone behind going back");
    BaledShade z = small();
    tell(z, "long 1;");
    tell(z, "long 2;");
    z.by(1);
    z.image();
    tell(z, "long 3;");
    tell(z, "long 4;");
    z.by(3);
    due("of(0, 4)", z.of(0, 4), 4);
    z.back();
    due("TEXTS", z.about(8), 2);
    due("THE TEXT", z.about(9), 1);
    due("of(0, 4)", z.of(0, 4), 2);
    for (int i = 2; i < 4; i++) {
      due("by(" + i + ")", z.by(i), false);
      due("played(" + i + ")", z.played(i), -2);
    }
    due("told anew", tell(z, "long 7;"), 2);
    due("by(2)", z.by(2), true);
    due("of(0, 4)", z.of(0, 4), 7);
    due("by(0)", z.by(0), true);
    due("those of old are there", z.of(0, 4), 1);
    z.back();
    due("by(2)", z.by(2), false);
    due("by(1)", z.by(1), true);
    due("of(0, 4)", z.of(0, 4), 2);
    BaledShade none = small();
    rule(none, "long 9;");
    none.back();
    due("THE TEXT of the first IMAGE", none.about(9), NONE);
    none.thing(10, 1, 0);
    due("its law is gone", none.of(0, 4), 30);
  }
}
