/** Terms I, sentence by sentence: the bounds of what is told, of each STEP, and of taking STEPS back. */
public final class EdgesOfStepsTest extends Helpers {
  public static void main(String[] args) {
    things();
    reapersAndBarns();
    bales();
    times();
    feetAndShadow();
    cutWhether();
    cutHowMuch();
    last();
    used();
    movedAndSold();
    anHour();
    aNewDay();
    growth();
    spoiling();
    draws();
    steps();
    stepsTakenBack();
    toldSince();
    decades();
    decadesOfCuts();
    decadesOfRats();
    close("EdgesOfStepsTest");
  }

  /** All BALES are there, 10 feet each in BARN 0, and the REAPER may CUT. */
  private static BaledShade twelve() {
    BaledShade x = lengths(10, 10, 10, 10, 10, 10, 10, 10, 10, 10, 10, 10);
    x.hour(1);
    return x;
  }

  // ---- what is told

  private static void things() {
    heading("THINGS 0 .. 7 (told one by one)");
    BaledShade x = new BaledShade();
    for (int i = 0; i < 8; i++) {
      due("of(" + i + ", 0) ahead of it", x.of(i, 0), NONE);
      due("thing that is refused takes no number", x.thing(100, 0, 0), NONE);
      due("thing " + i, x.thing(i + 1, i % 6, i % 5), i);
    }
    dueStill("a ninth thing", x, () -> x.thing(9, 0, 0), NONE);
    for (int i = 0; i < 8; i++) due("of(" + i + ", 0) stays", x.of(i, 0), i + 1);
    due("of(8, 0)", x.of(8, 0), NONE);

    heading("HEIGHT 1 .. 99");
    range("HEIGHT", 1, 99, NONE, v -> new BaledShade().thing(v, 0, 0));
    heading("KIND 0 .. 5");
    range("KIND", 0, 5, NONE, v -> new BaledShade().thing(1, v, 0));
    heading("OWNER 0 .. 4 (4: the commons)");
    range("OWNER", 0, 4, NONE, v -> new BaledShade().thing(1, 0, v));
    BaledShade ends = new BaledShade();
    ends.thing(1, 0, 0);
    ends.thing(99, 5, 4);
    for (int what = 0; what < 3; what++) {
      due("of(0, " + what + ")", ends.of(0, what), new int[] {1, 0, 0}[what]);
      due("of(1, " + what + ")", ends.of(1, what), new int[] {99, 5, 4}[what]);
    }

    heading("GROWN 0 .. 100 (of 100; at first 100)");
    BaledShade y = small();
    due("at first", y.of(0, 3), 100);
    y.cut(0, 0, 0);
    due("behind a cut of all", y.of(0, 3), 0);
    rule(y, "grows 100;");
    y.hour(10);
    due("grown by 100", y.of(0, 3), 100);
    y.hour(10);
    due("and by 100 more", y.of(0, 3), 100);
  }

  private static void reapersAndBarns() {
    heading("REAPERS 0 .. 3 (told one by one)");
    BaledShade x = new BaledShade();
    for (int i = 0; i < 4; i++) {
      due("ofReaper(" + i + ", 0) ahead of it", x.ofReaper(i, 0), NONE);
      due("reaper that is refused takes no number", x.reaper(0), NONE);
      due("reaper " + i, x.reaper(i + 1), i);
    }
    dueStill("a fifth reaper", x, () -> x.reaper(9), NONE);
    for (int i = 0; i < 4; i++) due("ofReaper(" + i + ", 0) stays", x.ofReaper(i, 0), i + 1);
    heading("REACH 1 .. 99");
    range("REACH", 1, 99, NONE, v -> new BaledShade().reaper(v));
    heading("there or gone");
    BaledShade y = small();
    due("at first", y.ofReaper(0, 1), 1);
    y.last(0, 0);
    due("behind LAST", y.ofReaper(0, 1), 0);
    y.hour(60);
    due("for good", y.ofReaper(0, 1), 0);
    due("it is a REAPER yet", y.ofReaper(0, 0), 30);
    heading("each CUTS once an HOUR");
    BaledShade z = big();
    for (int r = 0; r < 3; r++) {
      due("cut by " + r, z.cut(0, r, 0), r);
      int reaper = r;
      dueStill("once more by " + r, z, () -> z.cut(1, reaper, 1), NONE);
    }
    z.hour(1);
    for (int r = 0; r < 3; r++) due("in the next HOUR by " + r, z.cut(0, r, 0), 3 + r);

    heading("BARNS 0 .. 3 (told one by one)");
    BaledShade b = new BaledShade();
    for (int i = 0; i < 4; i++) {
      due("ofBarn(" + i + ", 0) ahead of it", b.ofBarn(i, 0), NONE);
      due("barn that is refused takes no number", b.barn(1000), NONE);
      due("barn " + i, b.barn(i + 1), i);
    }
    dueStill("a fifth barn", b, () -> b.barn(9), NONE);
    for (int i = 0; i < 4; i++) due("ofBarn(" + i + ", 0) stays", b.ofBarn(i, 0), i + 1);
    heading("ROOM 1 .. 999");
    range("ROOM", 1, 999, NONE, v -> new BaledShade().barn(v));
  }

  private static void bales() {
    heading("BALES 0 .. 11: .. or none");
    BaledShade x = new BaledShade();
    for (int b = -1; b <= 12; b++) due("bale(" + b + ", 1) at first", x.bale(b, 1), NONE);
    BaledShade full = twelve();
    for (int b = 0; b < 12; b++) due("bale(" + b + ", 1)", full.bale(b, 1), 10);
    due("bale(12, 1)", full.bale(12, 1), NONE);
    due("bale(-1, 1)", full.bale(-1, 1), NONE);
    heading("LENGTH (at least 1)");
    BaledShade y = lengths(2, 1);
    due("use(1, 0)", y.use(1, 0), 2);
    due("a foot is left", y.bale(0, 1), 1);
    due("use(1, 0)", y.use(1, 0), 1);
    due("it is none", y.bale(0, 0), NONE);
    due("the other one has a foot", y.bale(1, 1), 1);
    heading("DARK 0 .. 99");
    BaledShade z = lengths(9);
    rule(z, "spoils 0;");
    due("at first", z.bale(0, 2), 0);
    hours(z, 990);
    due("on day 99", z.bale(0, 2), 99);
    hours(z, 10);
    due("on day 100", z.bale(0, 2), 99);
    z.sell(0);
    z.cut(0, 0, 0);
    due("one that is bound anew", z.bale(0, 2), 0);
  }

  private static void times() {
    heading("HOUR 0 .. 9, DAY 0 .. 999, CLOUD 0 .. 9, PENCE (at first 0 each). X: at first 83");
    dueAbout(new BaledShade(), "at first", 0, 0, 0, 0, 0, 0, 0, 83);
    BaledShade x = new BaledShade();
    boolean[] clouds = new boolean[10];
    for (int h = 1; h <= 230; h++) {
      due("hour(1)", x.hour(1), h % 10);
      due("hour", x.about(3), h % 10);
      if (h % 10 == 0 && x.about(5) >= 0 && x.about(5) <= 9) clouds[x.about(5)] = true;
    }
    for (int c = 0; c < 10; c++) due("a CLOUD of " + c + " was there", clouds[c], true);
    due("day", x.about(4), 23);
  }

  // ---- CUT, LAST, USED, MOVED, SOLD

  private static void feetAndShadow() {
    heading("FEET in a BARN: LENGTH of all BALES in it together");
    BaledShade x = six();
    x.barn(5);
    due("of none", x.ofBarn(2, 1), 0);
    due("of three", x.ofBarn(0, 1), 60);
    x.sell(1);
    due("of two", x.ofBarn(0, 1), 40);
    BaledShade full = lengths(99, 99, 99, 99, 99, 99, 99, 99, 99, 99, 9);
    due("as many as the greatest ROOM", full.ofBarn(0, 1), 999);
    heading("without: HEIGHT times GROWN times (1 and the size of HOUR less 5), by 200, cut");
    BaledShade y = new BaledShade();
    y.thing(1, 0, 0);
    y.thing(99, 0, 0);
    int[] low = {3, 2, 2, 1, 1, 0, 1, 1, 2, 2};
    int[] high = {297, 247, 198, 148, 99, 49, 99, 148, 198, 247};
    for (int h = 0; h < 10; h++) {
      due("the lowest at " + h, y.of(0, 4), low[h]);
      due("the highest at " + h, y.of(1, 4), high[h]);
      y.hour(1);
    }
  }

  private static void cutWhether() {
    heading("CUT: a REAPER that is there");
    BaledShade gone = small();
    gone.reaper(5);
    gone.last(1, 0);
    dueStill("by one that is gone", gone, () -> gone.cut(0, 1, 0), NONE);
    due("by one that is there", gone.cut(0, 0, 0), 1);
    heading("CUT: if may is so");
    BaledShade may = small();
    rule(may, "may 1>1;");
    dueStill("may isn't so", may, () -> may.cut(0, 0, 0), NONE);
    rule(may, "may 1>0;");
    due("may is so", may.cut(0, 0, 0), 0);
    heading("CUT: its SHADOW is above 0");
    BaledShade none = small();
    rule(none, "long 0;");
    dueStill("a SHADOW of 0", none, () -> none.cut(0, 0, 0), NONE);
    rule(none, "long 1;");
    due("a SHADOW of 1", none.cut(0, 0, 0), 0);
    due("its LENGTH", none.bale(0, 1), 1);
    BaledShade low = with(1, 9, 9);
    low.hour(5);
    dueStill("a THING of HEIGHT 1 at HOUR 5", low, () -> low.cut(0, 0, 0), NONE);
    low.hour(1);
    due("and at HOUR 6", low.cut(0, 0, 0), 0);
    heading("CUT: a BALE is none");
    BaledShade full = twelve();
    dueStill("a thirteenth", full, () -> full.cut(0, 0, 0), NONE);
    full.sell(11);
    due("the twelfth again", full.cut(0, 0, 0), 11);
    heading("CUT: the BARN has ROOM for FEET with that many more");
    BaledShade room = with(10, 30, 29);
    dueStill("a foot too many", room, () -> room.cut(0, 0, 0), NONE);
    room.barn(30);
    due("just the ROOM", room.cut(0, 0, 1), 0);
    BaledShade more = with(10, 30, 60);
    more.thing(10, 1, 0);
    more.thing(1, 1, 0);
    more.reaper(30);
    more.reaper(1);
    more.cut(0, 0, 0);
    due("with FEET in it just the ROOM", more.cut(1, 1, 0), 1);
    dueStill("a foot more", more, () -> more.cut(2, 2, 0), NONE);
  }

  private static void cutHowMuch() {
    heading("as many as its SHADOW, REACH at most");
    for (int reach : new int[] {1, 29, 30, 31, 99}) {
      BaledShade x = with(10, reach, 999);
      x.cut(0, 0, 0);
      due("with a REACH of " + reach, x.bale(0, 1), Math.min(30, reach));
    }
    heading("the lowest BALE that is none is of that LENGTH, of that KIND, DARK 0, in that BARN");
    BaledShade x = twelve();
    x.thing(99, 5, 0);
    x.barn(999);
    x.sell(0);
    x.sell(5);
    x.sell(11);
    int[] free = {0, 5, 11};
    for (int b : free) {
      due("the lowest that is none", x.cut(1, 0, 1), b);
      due("LENGTH", x.bale(b, 1), 10);
      due("KIND", x.bale(b, 0), 5);
      due("DARK", x.bale(b, 2), 0);
      due("BARN", x.bale(b, 3), 1);
      x.hour(1);
    }
    heading("GROWN is less by GROWN times that LENGTH by the SHADOW, cut");
    int[] reaches = {1, 7, 29, 30};
    int[] grown = {97, 77, 4, 0};
    for (int i = 0; i < reaches.length; i++) {
      BaledShade y = with(10, reaches[i], 999);
      y.cut(0, 0, 0);
      due("with a REACH of " + reaches[i], y.of(0, 3), grown[i]);
    }
    BaledShade z = with(10, 1, 999);
    rule(z, "long 999;");
    z.cut(0, 0, 0);
    due("100 by 999 is cut to 0", z.of(0, 3), 100);
    BaledShade bare = with(10, 30, 999);
    bare.cut(0, 0, 0);
    rule(bare, "long 7;");
    bare.hour(1);
    due("a SHADOW though GROWN is 0", bare.cut(0, 0, 0), 1);
    due("GROWN is 0 yet", bare.of(0, 3), 0);
  }

  private static void last() {
    heading("LAST: a REAPER that is there is gone (else it can't be)");
    BaledShade x = with(10, 30, 999);
    due("last(0, 0)", x.last(0, 0), 0);
    due("gone", x.ofReaper(0, 1), 0);
    dueStill("gone already", x, () -> x.last(0, 0), NONE);
    x.hour(1);
    dueStill("gone in any HOUR", x, () -> x.last(0, 0), NONE);
    BaledShade four = with(10, 10, 999);
    for (int r = 1; r < 4; r++) four.reaper(10 + r);
    for (int r = 0; r < 4; r++) {
      int reaper = r;
      due("last(" + r + ", 0)", four.last(r, 0), r);
      for (int other = 0; other < 4; other++) due("who is there", four.ofReaper(other, 1), bit(other > r));
      dueStill("gone already: " + r, four, () -> four.last(reaper, 0), NONE);
    }
    heading("its own is a BALE of KIND 5, as long as REACH");
    for (int reach : new int[] {1, 99}) {
      BaledShade y = with(1, reach, 999);
      y.hour(5);
      due("under no SHADOW at all", y.last(0, 0), 0);
      for (int what = 0; what < 4; what++) due("bale(0, " + what + ")", y.bale(0, what), new int[] {5, reach, 0, 0}[what]);
    }
    BaledShade having = small();
    having.barn(30);
    having.cut(0, 0, 0);
    due("having CUT in this HOUR", having.last(0, 1), 1);
    heading("LAST: if a BALE is none");
    BaledShade full = twelve();
    dueStill("none is", full, () -> full.last(0, 0), NONE);
    full.sell(7);
    due("one is", full.last(0, 0), 7);
    heading("LAST: and the BARN has ROOM");
    BaledShade room = with(10, 30, 29);
    room.barn(30);
    room.barn(59);
    room.barn(60);
    dueStill("a foot too little", room, () -> room.last(0, 0), NONE);
    due("just the ROOM", room.last(0, 1), 0);
    room.reaper(30);
    room.move(0, 2);
    dueStill("a foot too little with FEET in it", room, () -> room.last(1, 2), NONE);
    room.move(0, 3);
    due("just the ROOM with FEET in it", room.last(1, 3), 1);
  }

  private static void used() {
    heading("USED: FEET (1 .. 999)");
    range("FEET", 1, 60, NONE, v -> six().use(v, 0));
    BaledShade full = lengths(99, 99, 99, 99, 99, 99, 99, 99, 99, 99, 9);
    dueStill("use(1000, 0)", full, () -> full.use(1000, 0), NONE);
    due("use(999, 0)", full.use(999, 0), 0);
    for (int b = 0; b < 12; b++) due("none is left", full.bale(b, 1), NONE);
    heading("USED: from a BARN that has so many");
    BaledShade x = six();
    dueStill("a foot too many, though all have it", x, () -> x.use(61, 0), NONE);
    due("all of it", x.use(60, 0), 0);
    due("the other BARN's stay", x.ofBarn(1, 1), 60);
    dueStill("of an empty BARN", x, () -> x.use(1, 0), NONE);
    heading("the greatest DARK first, of like ones the lowest");
    BaledShade y = lengths(10, 20, 30);
    rule(y, "spoils 0;");
    y.hour(10);
    y.sell(0);
    y.cut(0, 0, 0);
    due("use(20, 0)", y.use(20, 0), 40);
    due("one of like DARK, the lower", y.bale(1, 1), NONE);
    due("one of like DARK, the higher", y.bale(2, 1), 30);
    due("the lightest", y.bale(0, 1), 10);
    due("use(30, 0)", y.use(30, 0), 10);
    due("the higher", y.bale(2, 1), NONE);
    due("the lightest is the last", y.bale(0, 1), 10);
    heading("of each as much as it has, the last one is less by what is left");
    int[][] left = {{9, 20, 30}, {0, 20, 30}, {0, 19, 30}, {0, 0, 30}, {0, 0, 29}, {0, 0, 1}, {0, 0, 0}};
    int[] feet = {1, 10, 11, 30, 31, 59, 60};
    for (int i = 0; i < feet.length; i++) {
      BaledShade z = six();
      due("use(" + feet[i] + ", 0)", z.use(feet[i], 0), 60 - feet[i]);
      for (int b = 0; b < 3; b++) due("bale(" + b + ", 1) behind use(" + feet[i] + ", 0)", Math.max(0, z.bale(b, 1)), left[i][b]);
    }
    heading("USED: a BALE without LENGTH is none");
    BaledShade w = six();
    w.use(10, 0);
    for (int what = 0; what < 6; what++) due("bale(0, " + what + ")", w.bale(0, what), NONE);
    w.hour(1);
    due("it is the lowest that is none", w.cut(1, 0, 0), 0);
  }

  private static void movedAndSold() {
    heading("MOVED: a BALE to another BARN that has ROOM for it");
    BaledShade x = six();
    x.barn(19);
    x.barn(20);
    dueStill("to where it is", x, () -> bit(x.move(1, 0)), 0);
    dueStill("a foot too little", x, () -> bit(x.move(1, 2)), 0);
    due("just the ROOM", x.move(1, 3), true);
    dueStill("a full BARN", x, () -> bit(x.move(0, 3)), 0);
    dueStill("a BALE that is none", x, () -> bit(x.move(6, 1)), 0);
    due("and back", x.move(1, 0), true);
    due("all of the ROOM is there again", x.move(4, 3), true);
    BaledShade y = with(10, 30, 30);
    y.barn(59);
    y.barn(60);
    y.cut(0, 0, 0);
    y.reaper(30);
    y.last(1, 1);
    dueStill("with FEET in it a foot too little", y, () -> bit(y.move(0, 1)), 0);
    y.move(1, 2);
    due("with FEET in it just the ROOM", y.move(0, 2), true);
    heading("MOVED: KIND, LENGTH, DARK stay");
    BaledShade z = six();
    z.hour(10);
    z.move(4, 0);
    for (int what = 0; what < 4; what++) due("bale(4, " + what + ")", z.bale(4, what), new int[] {2, 19, 1, 0}[what]);
    heading("SOLD: PENCE are more by what sells says; it is none");
    BaledShade w = six();
    due("sell(5)", w.sell(5), 30);
    due("sell(0)", w.sell(0), 10);
    due("PENCE", w.about(6), 40);
    for (int what = 0; what < 6; what++) due("bale(0, " + what + ")", w.bale(0, what), NONE);
    dueStill("once more", w, () -> w.sell(0), NONE);
    rule(w, "sells 0;");
    due("for nothing", w.sell(1), 0);
    due("PENCE", w.about(6), 40);
    due("it is none", w.bale(1, 1), NONE);
    due("a STEP all the same", w.undo(), 9);
    due("there again", w.bale(1, 1), 20);
  }

  // ---- an HOUR

  private static void anHour() {
    heading("AN HOUR: HOUR is one more, each REAPER may CUT again");
    BaledShade x = big();
    x.cut(0, 0, 0);
    x.cut(0, 2, 0);
    due("who has CUT", x.ofReaper(0, 2) * 100 + x.ofReaper(1, 2) * 10 + x.ofReaper(2, 2), 101);
    x.hour(1);
    due("HOUR", x.about(3), 1);
    for (int r = 0; r < 3; r++) due("who has CUT", x.ofReaper(r, 2), 0);
    due("DAY", x.about(4), 0);
    due("CLOUD", x.about(5), 0);
    due("X", x.about(7), 83);
    due("DARK", x.bale(0, 2), 0);
    due("LENGTH", x.bale(0, 1), 10);
    heading("If it is 10 then, it is 0, DAY one more");
    x.hour(8);
    dueAbout(x, "at HOUR 9", 2, 3, 2, 9, 0, 0, 0, 83);
    x.cut(0, 1, 0);
    due("hour(1)", x.hour(1), 0);
    dueAbout(x, "on the next DAY", 2, 3, 2, 0, 1, 3, 0, 24012);
    due("each REAPER may CUT again", x.ofReaper(1, 2), 0);
    heading("at DAY 999 and HOUR 9 none passes");
    BaledShade y = small();
    hours(y, 9989);
    due("DAY", y.about(4), 998);
    due("HOUR", y.about(3), 9);
    dueStill("eleven", y, () -> y.hour(11), NONE);
    due("one", y.hour(1), 0);
    due("DAY", y.about(4), 999);
    dueStill("ten", y, () -> y.hour(10), NONE);
    due("nine", y.hour(9), 9);
    y.cut(0, 0, 0);
    dueStill("one", y, () -> y.hour(1), NONE);
    dueStill("sixty", y, () -> y.hour(60), NONE);
    due("undo()", y.undo(), 29);
    due("undo()", y.undo(), 28);
    due("HOUR", y.about(3), 8);
    due("one is left again", y.hour(1), 9);
  }

  private static void aNewDay() {
    heading("CLOUD is a draw by 10");
    int drawn = 83;
    BaledShade x = new BaledShade();
    for (int d = 1; d <= 60; d++) {
      x.hour(10);
      due("CLOUD of DAY " + d, x.about(5), drawn % 10);
      drawn = (drawn * 287 + 191) % 30313;
      due("X of DAY " + d, x.about(7), drawn);
    }
    heading("THINGS by number: GROWN is more by grows");
    BaledShade y = new BaledShade();
    for (int t = 0; t < 8; t++) y.thing(t + 1, 1, 0);
    for (int r = 0; r < 4; r++) y.reaper(99);
    y.barn(999);
    rule(y, "long 1;grows height;");
    for (int t = 0; t < 8; t++) {
      y.cut(t, t % 4, 0);
      if (t == 3) y.hour(1);
    }
    y.hour(9);
    for (int t = 0; t < 8; t++) due("GROWN of " + t, y.of(t, 3), t + 1);
    heading("grows and spoils as on the new DAY");
    BaledShade z = lengths(50);
    rule(z, "long 50;grows day*10;spoils day*3;");
    z.hour(1);
    z.cut(0, 0, 0);
    due("GROWN", z.of(0, 3), 0);
    z.hour(9);
    due("GROWN on DAY 1", z.of(0, 3), 10);
    due("LENGTH on DAY 1", z.bale(0, 1), 47);
    z.hour(10);
    due("GROWN on DAY 2", z.of(0, 3), 30);
    due("LENGTH on DAY 2", z.bale(0, 1), 41);
  }

  private static void growth() {
    heading("GROWN is more by grows (100 at most)");
    for (int more : new int[] {0, 22, 23, 24, 100}) {
      BaledShade x = with(10, 7, 999);
      x.cut(0, 0, 0);
      due("GROWN", x.of(0, 3), 77);
      rule(x, "grows " + more + ";");
      x.hour(10);
      due("GROWN by " + more, x.of(0, 3), Math.min(100, 77 + more));
    }
    heading("GROWN is more, if CLOUD is below 8");
    // CLOUD is 9 on DAY 4, 8 on DAY 7, 0 on DAY 8, 7 on DAY 22
    int[][] days = {{4, 9, 0}, {7, 8, 0}, {8, 0, 10}, {22, 7, 10}, {30, 4, 10}, {31, 8, 0}};
    for (int[] d : days) {
      BaledShade x = small();
      hours(x, (d[0] - 1) * 10);
      x.cut(0, 0, 0);
      due("ahead of DAY " + d[0], x.of(0, 3), 0);
      x.hour(10);
      due("CLOUD", x.about(5), d[1]);
      due("GROWN on DAY " + d[0], x.of(0, 3), d[2]);
    }
  }

  private static void spoiling() {
    heading("BALES by number: LENGTH is less by spoils; those without LENGTH are none");
    for (int spoils : new int[] {0, 1, 29, 30, 31, 999}) {
      BaledShade x = lengths(30);
      rule(x, "spoils " + spoils + ";");
      x.hour(10);
      due("LENGTH behind " + spoils, x.bale(0, 1), spoils < 30 ? 30 - spoils : NONE);
      due("FEET behind " + spoils, x.ofBarn(0, 1), Math.max(0, 30 - spoils));
    }
    heading("BALES by number: under a CLOUD too");
    BaledShade c = lengths(30);
    c.hour(40);
    due("CLOUD", c.about(5), 9);
    due("LENGTH", c.bale(0, 1), 26);
    heading("BALES by number: here counts those that the ones ahead of it have left");
    BaledShade y = lengths(3, 9, 9);
    rule(y, "spoils here;");
    y.hour(10);
    due("the first is none", y.bale(0, 1), NONE);
    due("the second", y.bale(1, 1), 7);
    due("the third", y.bale(2, 1), 7);
    heading("DARK one more (99 at most)");
    BaledShade z = lengths(30);
    rule(z, "spoils 0;");
    hours(z, 970);
    for (int d = 97; d <= 101; d++) {
      due("DARK behind " + d + " DAYS", z.bale(0, 2), Math.min(99, d));
      z.hour(10);
    }
    heading("LENGTH is less by spoils, then DARK one more");
    BaledShade w = lengths(30);
    rule(w, "spoils dark*5;");
    w.hour(10);
    due("DARK was 0", w.bale(0, 1), 30);
    w.hour(10);
    due("DARK was 1", w.bale(0, 1), 25);
  }

  private static void draws() {
    heading("X mod m, X being (X * 287 + 191) mod 30313 then");
    BaledShade x = new BaledShade();
    x.thing(1, 1, 1);
    x.reaper(1);
    x.barn(1);
    int most = 0;
    for (int seed = 4900; seed < 5000; seed++) {
      x.decades(seed, 1);
      int drawn = ((seed * 2 + 83) * 287 + 191) % 30313;
      int again = (drawn * 287 + 191) % 30313;
      due("X behind a DECADE by " + seed, x.about(7) == drawn || x.about(7) == again, true);
      most = Math.max(most, x.about(7));
    }
    due("X is below 30313", most < 30313, true);
  }

  // ---- STEPS

  private static void steps() {
    heading("STEPS: CUT, LAST, USED, MOVED, SOLD, an HOUR (each), DECADES");
    BaledShade x = big();
    due("what is told is none", x.about(10), 0);
    x.cut(0, 0, 0);
    due("CUT", x.about(10), 1);
    x.last(1, 0);
    due("LAST", x.about(10), 2);
    x.use(5, 0);
    due("USED", x.about(10), 3);
    x.move(0, 1);
    due("MOVED", x.about(10), 4);
    x.sell(0);
    due("SOLD", x.about(10), 5);
    x.hour(1);
    due("an HOUR", x.about(10), 6);
    x.hour(4);
    due("four more", x.about(10), 10);
    x.decades(0, 30);
    due("DECADES, all as one", x.about(10), 11);
    heading("STEPS: nothing else is one");
    BaledShade y = six();
    int n = y.about(10);
    y.thing(1, 1, 1);
    y.reaper(1);
    y.barn(1);
    y.need(3, 3);
    y.need(NONE, 0);
    rule(y, "long 5;");
    y.by(NONE);
    y.image();
    y.played(0);
    y.foretold(60, 0);
    y.most(0, 0, 4, NONE);
    y.unmet(20);
    y.when(0, 60, 0);
    due("STEPS", y.about(10), n);
    heading("STEPS: what is refused is none");
    y.cut(7, 7, 7);
    y.last(3, 3);
    y.use(999, 0);
    y.move(0, 0);
    y.sell(11);
    y.hour(61);
    y.decades(0, 31);
    y.undo();
    due("STEPS", y.about(10), n - 1);
  }

  private static void stepsTakenBack() {
    heading("the latest 30 can be taken back, the latest first");
    BaledShade x = new BaledShade();
    due("undo() of none", x.undo(), NONE);
    x.hour(29);
    due("29", x.about(10), 29);
    x.hour(1);
    due("30", x.about(10), 30);
    x.hour(1);
    due("31", x.about(10), 30);
    for (int i = 29; i >= 0; i--) {
      due("undo()", x.undo(), i);
      due("HOURS that have passed", x.about(4) * 10 + x.about(3), i + 1);
    }
    dueStill("undo() of none", x, x::undo, NONE);
    x.hour(60);
    x.hour(5);
    for (int i = 29; i >= 0; i--) due("undo()", x.undo(), i);
    due("HOURS that have passed", x.about(4) * 10 + x.about(3), 36);
    x.hour(3);
    due("three", x.about(10), 3);
    due("undo()", x.undo(), 2);
    x.hour(28);
    due("thirty again", x.about(10), 30);
    heading("GROWN of THINGS, who is there and has CUT, BALES, HOUR, DAY, CLOUD, PENCE, X are as ahead of it");
    BaledShade y = six();
    y.hour(8);
    String[] ahead = new String[7];
    for (int i = 0; i < 7; i++) {
      ahead[i] = state(y);
      act(y, i);
    }
    for (int i = 6; i >= 0; i--) {
      due("undo() of act " + i, y.undo(), 15 + i);
      due("all is as ahead of act " + i + ": " + state(y) + " / " + ahead[i], state(y).equals(ahead[i]), true);
    }
  }

  private static void act(BaledShade x, int i) {
    switch (i) {
      case 0 -> due("cut", x.cut(1, 2, 1) != NONE, true);
      case 1 -> due("last", x.last(0, 1) != NONE, true);
      case 2 -> due("use", x.use(25, 0) != NONE, true);
      case 3 -> due("move", x.move(3, 0), true);
      case 4 -> due("sell", x.sell(4) != NONE, true);
      case 5 -> due("hour into a new DAY", x.hour(1), 0);
      default -> due("decades", x.decades(77, 30) != NONE, true);
    }
  }

  private static void toldSince() {
    heading("THINGS told since have GROWN 100, REAPERS told since are there");
    BaledShade x = small();
    x.hour(1);
    x.thing(20, 2, 2);
    x.reaper(20);
    x.barn(99);
    x.cut(1, 1, 1);
    x.last(1, 1);
    due("GROWN", x.of(1, 3) < 100, true);
    due("there", x.ofReaper(1, 1), 0);
    x.undo();
    due("there", x.ofReaper(1, 1), 1);
    due("has CUT", x.ofReaper(1, 2), 1);
    due("undo() of the CUT", x.undo(), 1);
    due("undo() of the HOUR", x.undo(), 0);
    due("GROWN", x.of(1, 3), 100);
    due("there", x.ofReaper(1, 1), 1);
    due("has CUT", x.ofReaper(1, 2), 0);
    due("they are told yet", x.about(0) * 100 + x.about(1) * 10 + x.about(2), 222);
    heading("told since a STEP that is taken back at once");
    BaledShade y = small();
    y.hour(9);
    y.thing(20, 2, 2);
    y.reaper(20);
    y.cut(1, 1, 0);
    y.decades(5, 30);
    for (int i = 0; i < 11; i++) y.undo();
    due("GROWN", y.of(1, 3), 100);
    due("there", y.ofReaper(1, 1), 1);
    due("STEPS", y.about(10), 0);
    due("undo()", y.undo(), NONE);
    heading("taking back leaves TEXTS, THE TEXT, NEEDS, the tape");
    BaledShade z = small();
    z.hour(1);
    rule(z, "long 5;");
    z.need(1, 1);
    write(z, "abc");
    z.undo();
    dueAbout(z, "behind it", 1, 1, 1, 0, 0, 0, 0, 83, 1, 0, 0, 1, 3);
  }

  // ---- DECADES

  private static int next(int x) { return (x * 287 + 191) % 30313; }

  private static void decades() {
    heading("DECADES by a SEED: X is SEED (0 .. 9999) * 2 + 83");
    range("SEED", 0, 9999, NONE, v -> six().decades(v, 1));
    BaledShade x = new BaledShade();
    x.thing(1, 1, 1);
    x.reaper(1);
    x.barn(1);
    x.decades(0, 1);
    // 83 and 20081 by 6 are 5: an HOUR each
    due("X behind 0", x.about(7), next(83));
    x.decades(9999, 1);
    due("X behind 9999", x.about(7), next(20081));
    due("HOUR", x.about(3), 2);
    heading("n times (1 .. 30)");
    range("n", 1, 30, NONE, v -> six().decades(0, v));
    heading("else an HOUR (if it can pass)");
    BaledShade last = small();
    hours(last, 9998);
    last.decades(0, 1);
    due("it can", last.about(3), 9);
    last.cut(0, 0, 0);
    int steps = last.about(10);
    due("it can't", last.decades(5, 1), 0);
    due("HOUR", last.about(3), 9);
    due("DAY", last.about(4), 999);
    due("it has CUT in this HOUR yet", last.ofReaper(0, 2), 1);
    due("X", last.about(7), next(93));
    due("a STEP all the same", last.about(10), steps);
    last.undo();
    due("X is as ahead of it", last.about(7), next(83));
    heading("an HOUR of DECADES is a new DAY too");
    BaledShade day = small();
    day.hour(9);
    day.cut(0, 0, 0);
    day.decades(0, 1);
    due("DAY", day.about(4), 1);
    due("HOUR", day.about(3), 0);
    due("CLOUD", day.about(5), next(83) % 10);
    due("X", day.about(7), next(next(83)));
    due("DARK", day.bale(0, 2), 1);
    due("who has CUT", day.ofReaper(0, 2), 0);
    heading("1: a BALE drawn by 12 is SOLD, if there is one");
    // by 1: 85 by 6 is 1, then 24586 by 12 is 10
    BaledShade sale = lengths(5, 5, 5, 5, 5, 5, 5, 5, 5, 5, 7, 5);
    due("PENCE", sale.decades(1, 1), 7);
    due("it is none", sale.bale(10, 1), NONE);
    due("PENCE, there being none", sale.decades(1, 1), 7);
    due("X", sale.about(7), next(next(85)));
    heading("DECADES: It is one STEP: PENCE");
    BaledShade one = six();
    int pence = one.sell(2);
    due("without a sale", one.decades(0, 1), pence);
    due("STEPS", one.about(10), 9);
    due("undo()", one.undo(), 8);
    due("X", one.about(7), 83);
    heading("DECADES: without THINGS, REAPERS or BARNS");
    for (int without = 0; without < 3; without++) {
      BaledShade bare = new BaledShade();
      if (without != 0) bare.thing(1, 1, 1);
      if (without != 1) bare.reaper(1);
      if (without != 2) bare.barn(1);
      dueStill("without " + without, bare, () -> bare.decades(1, 1), NONE);
    }
  }

  /** The seed by which the first draws by 6 come to this one, HOURS aside; told by draws alone. */
  private static int seedOf(int event, int ahead) {
    for (int seed = 0; seed < 10000; seed++) {
      int x = seed * 2 + 83;
      int passed = 0;
      while (passed < ahead && x % 6 > 2) {
        x = next(x);
        passed++;
      }
      if (passed == ahead && x % 6 == event) return seed;
    }
    return NONE;
  }

  private static void decadesOfCuts() {
    heading("0: a THING drawn by how many there are is CUT by a REAPER drawn likewise to a BARN drawn likewise");
    int seed = seedOf(0, 1);
    int drawn = next(seed * 2 + 83);
    int t = next(drawn);
    int r = next(t);
    int b = next(r);
    BaledShade x = new BaledShade();
    for (int i = 0; i < 7; i++) x.thing(99, i % 6, 0);
    for (int i = 1; i <= 3; i++) x.reaper(i * 10);
    for (int i = 0; i < 4; i++) x.barn(99);
    x.decades(seed, 2);
    due("KIND", x.bale(0, 0), t % 7 % 6);
    due("LENGTH", x.bale(0, 1), (r % 3 + 1) * 10);
    due("BARN", x.bale(0, 3), b % 4);
    due("who has CUT", x.ofReaper(r % 3, 2), 1);
    due("X", x.about(7), next(b));
    due("STEPS", x.about(10), 1);
    heading("if it can be; all three are drawn anyhow");
    String[] why = {"may isn't so", "no ROOM", "gone", "a SHADOW of 0"};
    for (int i = 0; i < why.length; i++) {
      BaledShade y = with(10, 30, i == 1 ? 24 : 60);
      if (i == 0) rule(y, "may 1>1;");
      if (i == 2) y.last(0, 0);
      if (i == 3) rule(y, "long 0;");
      y.decades(seed, 2);
      due("nothing is cut: " + why[i], y.bale(i == 2 ? 1 : 0, 1), NONE);
      due("GROWN: " + why[i], y.of(0, 3), 100);
      due("X: " + why[i], y.about(7), next(b));
      due("HOUR: " + why[i], y.about(3), 1);
    }
  }

  private static void decadesOfRats() {
    heading("2: rats: a BALE drawn by 12: its LENGTH is less by 1 and a draw by 20 (none if nothing is left)");
    int seed = seedOf(2, 1);
    int bale = next(next(seed * 2 + 83));
    int eaten = 1 + next(bale) % 20;
    for (int length : new int[] {eaten - 1, eaten, eaten + 1, 80}) {
      if (length < 1) continue;
      int[] all = new int[12];
      for (int i = 0; i < 12; i++) all[i] = length;
      BaledShade x = lengths(all);
      x.decades(seed, 2);
      for (int b = 0; b < 12; b++) {
        int left = b == bale % 12 ? length - eaten : length;
        due("bale(" + b + ", 1) of " + length, x.bale(b, 1), left > 0 ? left : NONE);
      }
      due("no DAY has ended", x.about(4), 0);
      due("PENCE", x.about(6), 0);
    }
    heading("rats: drawn anyhow");
    BaledShade y = with(10, 30, 60);
    y.decades(seed, 2);
    due("X", y.about(7), next(next(bale)));
    due("no BALE", y.bale(bale % 12, 1), NONE);
    heading("rats eat 1 at least, 20 at most");
    int least = 99;
    int most = 0;
    for (int s = 0; s < 400; s++) {
      int first = s * 2 + 83;
      if (first % 6 <= 2 || next(first) % 6 != 2) continue;
      BaledShade z = lengths(80, 80, 80, 80, 80, 80, 80, 80, 80, 80, 80, 80);
      z.decades(s, 2);
      int which = next(next(first)) % 12;
      int due = 1 + next(next(next(first))) % 20;
      due("what they have eaten by " + s, 80 - z.bale(which, 1), due);
      least = Math.min(least, due);
      most = Math.max(most, due);
    }
    due("the least", least, 1);
    due("the most", most, 20);
  }
}
