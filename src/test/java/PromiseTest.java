import java.util.Arrays;

/** Each promise by hand: ordinary inputs, the edges that the document names, wrong inputs. */
public final class PromiseTest extends Helpers {
  private static final int[] FAR = {Integer.MIN_VALUE, -2, Integer.MAX_VALUE};

  private static void promise(int n, String name) { heading("promise " + n + " (" + name + ")"); }

  public static void main(String[] args) {
    newObject();
    thing();
    reaper();
    barn();
    cut();
    last();
    use();
    move();
    sell();
    hour();
    days();
    decades();
    feedAndEnd();
    text();
    faults();
    names();
    numbers();
    by();
    sums();
    asks();
    laws();
    played();
    undo();
    of();
    ofReaper();
    bale();
    ofBarn();
    foretold();
    stored();
    most();
    need();
    unmet();
    enough();
    over();
    whose();
    leave();
    packed();
    when();
    hail();
    image();
    about();
    close("PromiseTest");
  }

  // ---- the promises

  private static void newObject() {
    promise(1, "a new object");
    BaledShade x = new BaledShade();
    due("NONE", NONE, -1);
    dueAbout(x, "of a new one", 0, 0, 0, 0, 0, 0, 0, 83, 0, -1, 0, 0, 0);
    for (int b = 0; b < 12; b++) due("bale(" + b + ", 1)", x.bale(b, 1), NONE);
    due("undo()", x.undo(), NONE);
    x.thing(1, 1, 1);
    x.reaper(1);
    x.barn(1);
    x.need(1, 1);
    x.hour(60);
    due("back() to the first image", x.back(), 0);
    dueAbout(x, "back at the first image", 0, 0, 0, 0, 0, 0, 0, 83, 0, -1, 0, 0, 0);
  }

  private static void thing() {
    promise(2, "thing");
    BaledShade x = new BaledShade();
    for (int v : FAR) {
      due("thing(v, 0, 0)", x.thing(v, 0, 0), NONE);
      due("thing(1, v, 0)", x.thing(1, v, 0), NONE);
      due("thing(1, 0, v)", x.thing(1, 0, v), NONE);
    }
    due("thing(0, 0, 0)", x.thing(0, 0, 0), NONE);
    due("thing(100, 0, 0)", x.thing(100, 0, 0), NONE);
    due("thing(1, -1, 0)", x.thing(1, -1, 0), NONE);
    due("thing(1, 6, 0)", x.thing(1, 6, 0), NONE);
    due("thing(1, 0, -1)", x.thing(1, 0, -1), NONE);
    due("thing(1, 0, 5)", x.thing(1, 0, 5), NONE);
    due("about(0)", x.about(0), 0);
    due("thing(1, 0, 0)", x.thing(1, 0, 0), 0);
    due("thing(99, 5, 4)", x.thing(99, 5, 4), 1);
    for (int i = 2; i < 8; i++) due("thing(2, 2, 2)", x.thing(2, 2, 2), i);
    due("a ninth thing", x.thing(2, 2, 2), NONE);
    due("about(0)", x.about(0), 8);
    due("of(1, 0)", x.of(1, 0), 99);
    due("of(1, 1)", x.of(1, 1), 5);
    due("of(1, 2)", x.of(1, 2), 4);
    due("of(7, 3)", x.of(7, 3), 100);
    due("steps", x.about(10), 0);
  }

  private static void reaper() {
    promise(3, "reaper");
    BaledShade x = new BaledShade();
    for (int v : FAR) due("reaper(" + v + ")", x.reaper(v), NONE);
    due("reaper(0)", x.reaper(0), NONE);
    due("reaper(100)", x.reaper(100), NONE);
    due("reaper(1)", x.reaper(1), 0);
    due("reaper(99)", x.reaper(99), 1);
    due("reaper(5)", x.reaper(5), 2);
    due("reaper(5)", x.reaper(5), 3);
    due("a fifth reaper", x.reaper(5), NONE);
    due("about(1)", x.about(1), 4);
    due("ofReaper(1, 0)", x.ofReaper(1, 0), 99);
    due("ofReaper(3, 1)", x.ofReaper(3, 1), 1);
    due("ofReaper(3, 2)", x.ofReaper(3, 2), 0);
  }

  private static void barn() {
    promise(4, "barn");
    BaledShade x = new BaledShade();
    for (int v : FAR) due("barn(" + v + ")", x.barn(v), NONE);
    due("barn(0)", x.barn(0), NONE);
    due("barn(1000)", x.barn(1000), NONE);
    due("barn(1)", x.barn(1), 0);
    due("barn(999)", x.barn(999), 1);
    due("barn(5)", x.barn(5), 2);
    due("barn(5)", x.barn(5), 3);
    due("a fifth barn", x.barn(5), NONE);
    due("about(2)", x.about(2), 4);
    due("ofBarn(1, 0)", x.ofBarn(1, 0), 999);
  }

  private static void cut() {
    promise(5, "cut");
    BaledShade x = small();
    for (int v : new int[] {-1, 1, 4, 8, Integer.MAX_VALUE, Integer.MIN_VALUE}) {
      due("cut(v, 0, 0)", x.cut(v, 0, 0), NONE);
      due("cut(0, v, 0)", x.cut(0, v, 0), NONE);
      due("cut(0, 0, v)", x.cut(0, 0, v), NONE);
    }
    due("steps behind what can't be", x.about(10), 0);
    x.reaper(7);
    due("cut(0, 1, 0)", x.cut(0, 1, 0), 0);
    due("its length is the reach", x.bale(0, 1), 7);
    due("grown: 100 less 700 by 30, cut", x.of(0, 3), 77);
    due("shadow: 10 * 77 * 6 by 200, cut", x.of(0, 4), 23);
    due("it has cut", x.ofReaper(1, 2), 1);
    due("twice in an hour", x.cut(0, 1, 0), NONE);
    due("another one", x.cut(0, 0, 0), 1);
    due("all of the shadow", x.bale(1, 1), 23);
    due("grown", x.of(0, 3), 0);
    x.hour(1);
    due("a shadow of 0", x.cut(0, 0, 0), NONE);
    due("steps", x.about(10), 3);

    x = new BaledShade();
    x.thing(10, 4, 0);
    x.reaper(99);
    x.barn(29);
    x.barn(30);
    due("one foot too many", x.cut(0, 0, 0), NONE);
    due("it has not cut then", x.ofReaper(0, 2), 0);
    due("just the room", x.cut(0, 0, 1), 0);
    due("kind", x.bale(0, 0), 4);
    due("length", x.bale(0, 1), 30);
    due("dark", x.bale(0, 2), 0);
    due("barn", x.bale(0, 3), 1);
    x.thing(10, 4, 0);
    x.hour(1);
    due("a full barn", x.cut(1, 0, 1), NONE);

    x = big();
    for (int i = 0; i < 12; i++) {
      due("cut " + i, x.cut(i % 2, i % 3, i % 2), i);
      if (i % 3 == 2) x.hour(1);
    }
    due("a thirteenth bale", x.cut(0, 0, 0), NONE);
    x.sell(7);
    x.sell(4);
    due("the lowest that is none", x.cut(0, 0, 0), 4);
    due("then the next", x.cut(0, 1, 0), 7);

    x = small();
    rule(x, "may hour>0;");
    due("may is not so", x.cut(0, 0, 0), NONE);
    x.hour(1);
    due("may is so", x.cut(0, 0, 0), 0);
    x = six();
    x.hour(1);
    x.last(1, 0);
    due("by one that is gone", x.cut(0, 1, 0), NONE);
    due("by those that are there", x.cut(0, 0, 0), 7);
    due("by those that are there", x.cut(0, 2, 0), 8);
    x = small();
    x.reaper(1);
    due("a reach of 1", x.cut(0, 1, 0), 0);
    due("a length of 1", x.bale(0, 1), 1);
    x.thing(1, 1, 1);
    x.hour(3);
    due("a shadow of 1", x.of(1, 4), 1);
    due("a shadow of 1", x.cut(1, 0, 0), 1);
    due("a length of 1", x.bale(1, 1), 1);
  }

  private static void last() {
    promise(6, "last");
    BaledShade x = small();
    for (int v : new int[] {-1, 1, 4, Integer.MAX_VALUE, Integer.MIN_VALUE}) {
      due("last(v, 0)", x.last(v, 0), NONE);
      due("last(0, v)", x.last(0, v), NONE);
    }
    x.cut(0, 0, 0);
    due("no room for its own", x.last(0, 0), NONE);
    due("it is there yet", x.ofReaper(0, 1), 1);
    x.barn(30);
    due("last(0, 1), having cut", x.last(0, 1), 1);
    due("gone", x.ofReaper(0, 1), 0);
    due("it has cut yet", x.ofReaper(0, 2), 1);
    due("kind", x.bale(1, 0), 5);
    due("length", x.bale(1, 1), 30);
    due("dark", x.bale(1, 2), 0);
    due("barn", x.bale(1, 3), 1);
    x.barn(999);
    due("gone already", x.last(0, 2), NONE);
    due("steps", x.about(10), 2);
    due("undo()", x.undo(), 1);
    due("there again", x.ofReaper(0, 1), 1);
    x = big();
    for (int i = 0; i < 12; i++) {
      x.cut(i % 2, i % 3, i % 2);
      if (i % 3 == 2) x.hour(1);
    }
    due("without a bale that is none", x.last(0, 0), NONE);
    x.sell(3);
    due("with one", x.last(2, 0), 3);
    due("others are there", x.ofReaper(0, 1) + x.ofReaper(1, 1), 2);
    due("it is gone", x.ofReaper(2, 1), 0);
  }

  private static void use() {
    promise(7, "use");
    BaledShade x = six();
    for (int v : new int[] {-1, 2, 4, Integer.MAX_VALUE, Integer.MIN_VALUE}) due("use(1, v)", x.use(1, v), NONE);
    for (int v : new int[] {0, -1, 1000, Integer.MAX_VALUE, Integer.MIN_VALUE}) due("use(v, 0)", x.use(v, 0), NONE);
    due("use(61, 0)", x.use(61, 0), NONE);
    due("steps behind what can't be", x.about(10), 7);
    due("use(15, 0)", x.use(15, 0), 45);
    due("of like ones the lowest", x.bale(0, 1), NONE);
    due("the next is less", x.bale(1, 1), 15);
    due("the rest is whole", x.bale(2, 1), 30);
    due("another barn", x.ofBarn(1, 1), 60);
    due("steps", x.about(10), 8);
    due("use(1, 0)", x.use(1, 0), 44);
    due("use(44, 0)", x.use(44, 0), 0);
    due("all are none", x.bale(2, 0), NONE);
    due("use(1, 0)", x.use(1, 0), NONE);

    x = big();
    x.cut(0, 0, 0);
    x.hour(10);
    x.cut(0, 1, 1);
    x.cut(0, 2, 0);
    x.sell(0);
    x.cut(0, 0, 0);
    x.move(1, 0);
    x.hour(10);
    x.sell(0);
    x.hour(1);
    x.cut(0, 0, 0);
    due("dark of 0", x.bale(0, 2), 0);
    due("dark of 1", x.bale(1, 2), 1);
    due("use of the darkest first", x.use(20, 0), 38);
    due("the lightest is whole", x.bale(0, 1), 10);
    due("the darkest is none", x.bale(1, 1), NONE);
    due("the next is less", x.bale(2, 1), 28);
    x = new BaledShade();
    for (int i = 0; i < 4; i++) x.reaper(99);
    for (int i = 0; i < 8; i++) x.thing(99, 0, 0);
    x.barn(999);
    for (int i = 0; i < 10; i++) {
      x.cut(i % 8, i % 4, 0);
      if (i % 4 == 3) x.hour(1);
    }
    due("feet", x.ofBarn(0, 1), 990);
    due("use(990, 0)", x.use(990, 0), 0);
  }

  private static void move() {
    promise(8, "move");
    BaledShade x = six();
    x.barn(19);
    x.barn(20);
    for (int v : new int[] {-1, 6, 11, 12, Integer.MAX_VALUE, Integer.MIN_VALUE}) due("move(v, 0)", x.move(v, 0), false);
    for (int v : new int[] {-1, 4, Integer.MAX_VALUE, Integer.MIN_VALUE}) due("move(0, v)", x.move(0, v), false);
    due("move(0, 0): it is there", x.move(0, 0), false);
    due("move(1, 2): no room", x.move(1, 2), false);
    due("steps behind what can't be", x.about(10), 7);
    due("move(1, 3)", x.move(1, 3), true);
    due("bale(1, 3)", x.bale(1, 3), 3);
    due("bale(1, 1)", x.bale(1, 1), 20);
    due("from", x.ofBarn(0, 1), 40);
    due("to", x.ofBarn(3, 1), 20);
    due("move(0, 3): no room left", x.move(0, 3), false);
    due("steps", x.about(10), 8);
  }

  private static void sell() {
    promise(9, "sell");
    BaledShade x = six();
    for (int v : new int[] {-1, 6, 12, Integer.MAX_VALUE, Integer.MIN_VALUE}) due("sell(v)", x.sell(v), NONE);
    due("steps behind what can't be", x.about(10), 7);
    due("sell(1)", x.sell(1), 20);
    due("again", x.sell(1), NONE);
    due("pence", x.about(6), 20);
    due("none", x.bale(1, 1), NONE);
    rule(x, "sells 9999*2;");
    due("at most", x.sell(5), 9999);
    due("pence", x.about(6), 10019);
    x.by(tell(x, "sells 0-5;"));
    due("at least", x.sell(0), 0);
    due("none", x.bale(0, 1), NONE);
    due("pence", x.about(6), 10019);
    due("steps", x.about(10), 10);
  }

  private static void hour() {
    promise(10, "hour");
    BaledShade x = small();
    for (int v : new int[] {0, -1, 61, Integer.MAX_VALUE, Integer.MIN_VALUE}) due("hour(" + v + ")", x.hour(v), NONE);
    due("steps", x.about(10), 0);
    due("hour(1)", x.hour(1), 1);
    due("hour(8)", x.hour(8), 9);
    due("day", x.about(4), 0);
    due("steps, an hour each", x.about(10), 9);
    due("hour(1)", x.hour(1), 0);
    due("day", x.about(4), 1);
    due("hour(60)", x.hour(60), 0);
    due("day", x.about(4), 7);
    x.cut(0, 0, 0);
    due("has cut", x.ofReaper(0, 2), 1);
    x.hour(1);
    due("may cut again", x.ofReaper(0, 2), 0);

    x = small();
    hours(x, 9990);
    due("day", x.about(4), 999);
    due("hour(10)", x.hour(10), NONE);
    due("none has passed", x.about(3), 0);
    due("hour(9)", x.hour(9), 9);
    x.cut(0, 0, 0);
    due("hour(1)", x.hour(1), NONE);
    due("it has cut in this hour", x.ofReaper(0, 2), 1);
    due("day", x.about(4), 999);
    due("hour", x.about(3), 9);
  }

  private static void days() {
    promise(10, "a day");
    BaledShade x = small();
    int[] clouds = {3, 2, 4, 9, 1, 6, 8, 0, 8, 1, 5};
    int[] grown = {10, 20, 30, 30, 40, 50, 50, 60, 60, 70, 80};
    x.cut(0, 0, 0);
    for (int d = 0; d < clouds.length; d++) {
      x.hour(10);
      due("cloud of day " + (d + 1), x.about(5), clouds[d]);
      due("grown on day " + (d + 1), x.of(0, 3), grown[d]);
      due("length on day " + (d + 1), x.bale(0, 1), 29 - d);
      due("dark on day " + (d + 1), x.bale(0, 2), d + 1);
    }
    due("x", x.about(7), 27975);
    x.hour(30);
    due("grown, 100 at most", x.of(0, 3), 100);
    hours(x, 150);
    due("length on day 29", x.bale(0, 1), 1);
    x.hour(10);
    due("without length it is none", x.bale(0, 1), NONE);
    x = small();
    rule(x, "spoils 0;");
    x.cut(0, 0, 0);
    hours(x, 980);
    due("dark", x.bale(0, 2), 98);
    hours(x, 30);
    due("dark, 99 at most", x.bale(0, 2), 99);

    x = six();
    rule(x, "spoils here*4;grows grown+kind;");
    x.hour(9);
    due("three there", x.bale(0, 1), NONE);
    due("two are left behind the first", x.bale(1, 1), 12);
    due("two", x.bale(2, 1), 22);
    due("three there", x.bale(3, 1), NONE);
    due("two are left behind the first", x.bale(4, 1), 12);
    x = six();
    rule(x, "spoils here*3;");
    x.hour(9);
    due("three there", x.bale(0, 1), 1);
    due("three", x.bale(2, 1), 21);
    x = six();
    rule(x, "spoils dark*10+1;grows day*3+cloud;");
    int before = x.of(1, 3);
    x.hour(9);
    due("as dark as ahead of it", x.bale(0, 1), 9);
    due("by the new day and its cloud", x.of(1, 3), Math.min(100, before + 6));
  }

  private static void decades() {
    promise(11, "decades");
    BaledShade x = new BaledShade();
    due("without all", x.decades(0, 1), NONE);
    x.thing(1, 1, 1);
    x.reaper(1);
    due("without barns", x.decades(0, 1), NONE);
    x = new BaledShade();
    x.thing(1, 1, 1);
    x.barn(1);
    due("without reapers", x.decades(0, 1), NONE);
    x = new BaledShade();
    x.reaper(1);
    x.barn(1);
    due("without things", x.decades(0, 1), NONE);
    x = six();
    for (int v : new int[] {-1, 10000, Integer.MAX_VALUE, Integer.MIN_VALUE}) due("decades(v, 1)", x.decades(v, 1), NONE);
    for (int v : new int[] {-1, 0, 31, Integer.MAX_VALUE, Integer.MIN_VALUE}) due("decades(0, v)", x.decades(0, v), NONE);
    due("steps behind what can't be", x.about(10), 7);
    due("x", x.about(7), 83);
    // an hour; 0 cut by 1 to 1; an hour; rats at 4, 9 feet; an hour; 3 is sold
    due("decades(0, 6)", x.decades(0, 6), 10);
    dueAbout(x, "behind decades", 2, 3, 2, 4, 0, 0, 10, 26384, 0, -1, 8);
    int[] cut = {1, 20, 0, 1};
    for (int i = 0; i < cut.length; i++) due("what was cut: " + i, x.bale(6, i), cut[i]);
    due("what the rats have left", x.bale(4, 1), 11);
    due("what was sold", x.bale(3, 1), NONE);
    // an hour; 0 cut by 1, that is gone: nothing, but all is drawn
    x.last(1, 0);
    due("decades(0, 2)", x.decades(0, 2), 10);
    due("x", x.about(7), 13246);
    // a sale of none; an hour; 1 cut by 0 to 0
    due("decades(1, 1)", x.decades(1, 1), 10);
    due("decades(1, 2)", x.decades(1, 2), 10);
    due("x", x.about(7), 28338);
    due("decades(1, 3)", x.decades(1, 3), 10);
    due("x", x.about(7), 2759);
    due("cut by 0", x.ofReaper(0, 2), 1);
  }

  private static void feedAndEnd() {
    promise(12, "feed");
    BaledShade x = new BaledShade();
    for (int i = 1; i <= 15; i++) due("feed", x.feed(0, 0, 0, 0, 0), i * 20);
    due("more than 300", x.feed(0, 0, 0, 0, 0), NONE);
    due("tape", x.about(12), 300);
    promise(13, "end");
    for (int v : new int[] {-1, 301, Integer.MAX_VALUE, Integer.MIN_VALUE}) due("end(v)", x.end(v), NONE);
    due("tape", x.about(12), 300);
    due("end(300)", x.end(300), 300);
    due("end(281)", x.end(281), 281);
    due("one byte too many", x.feed(0, 0, 0, 0, 0), NONE);
    due("end(280)", x.end(280), 280);
    due("just so many", x.feed(0, 0, 0, 0, 0), 300);
    due("end(0)", x.end(0), 0);
    due("end(1)", x.end(1), NONE);
    promise(12, "feed");
    // "long 1234;" : the highest byte of a is first
    due("feed", x.feed(0x6c6f6e67, 0x20313233, 0x343b2020, 0x20202020, 0x20202020), 20);
    due("end(11)", x.end(11), 11);
    due("text()", x.text(), 0);
    due("feed of bytes above 127", x.feed(-1, 0, 0, 0, 0), 20);
    due("text()", x.text(), NONE);
    due("fault(1)", x.fault(1), 0);
    due("feed", x.feed(0x20202020, 0x20202020, 0x20202020, 0x20202020, 0x202020e9), 20);
    due("text()", x.text(), NONE);
    due("fault(0)", x.fault(0), 1);
    due("fault(1)", x.fault(1), 19);
  }

  private static void text() {
    promise(14, "text");
    BaledShade x = new BaledShade();
    due("an empty tape", x.text(), 0);
    due("clauses", tell(x, "hour 1; hour 2;"), 1);
    due("the tape is empty then", x.about(12), 0);
    due("a fault", tell(x, "hour 0;"), NONE);
    due("the tape is empty then", x.about(12), 0);
    due("the third", tell(x, "long 1;"), 2);
    due("the fourth", tell(x, "long 1;"), 3);
    write(x, "x x x");
    due("a fifth", x.text(), NONE);
    due("the tape stays", x.about(12), 5);
    due("it was not read", x.fault(0), 0);
    due("texts", x.about(8), 4);
    due("300 bytes", tell(new BaledShade(), "hour 1;".repeat(23) + " ".repeat(132) + "hour 1;"), 0);
  }

  private static void faults() {
    promise(15, "fault");
    BaledShade x = new BaledShade();
    due("ahead of any", x.fault(0), NONE);
    due("ahead of any", x.fault(1), NONE);
    tell(x, "hour 0;");
    for (int v : new int[] {-1, 2, Integer.MAX_VALUE, Integer.MIN_VALUE}) due("fault(v)", x.fault(v), NONE);
    due("fault(0)", x.fault(0), 2);
    tell(x, "hour 1;");
    due("fault(0)", x.fault(0), 0);
    due("fault(1)", x.fault(1), NONE);

    fine("");
    fine(" \n ");
    fine("long(1)+-(2)*part 3of-4/5-6;may 1<2and 3<=4or 5>6 and 7>=8or not 9=1 or 1#2;");
    fine("\nthing 1 kind 0 of 0\n;");
    dueFault("x", 1, 0);
    dueFault("  ;", 1, 2);
    dueFault("5;", 1, 0);
    dueFault("day 5;", 1, 0);
    dueFault("of 5;", 1, 0);
    dueFault("Long 5;", 1, 0);
    dueFault("longs 5;", 1, 0);
    dueFault("lon 5;", 1, 0);
    dueFault("longlonglong 5;", 1, 0);
    for (char c : "azAZ".toCharArray()) dueFault("long" + c + " 5;", 1, 0);
    for (char c : "`{@[".toCharArray()) dueFault("long" + c + " 5;", 1, 4);
    for (char c : "/:".toCharArray()) dueFault("hour 1" + c + "1;", 1, 6);
    dueFault("long", 1, 4);
    dueFault("long ", 1, 5);
    dueFault("long 5", 1, 6);
    dueFault("long 5 \n", 1, 8);
    dueFault("long;", 1, 4);
    dueFault("long 5;;", 1, 7);
    dueFault("long 5 6;", 1, 7);
    dueFault("long 5day;", 1, 6);
    dueFault("long 5 !;", 1, 7);
    dueFault("long 5\t;", 1, 6);
    dueFault("long 5\u0000;", 1, 6);
    dueFault("long 5\u00ff;", 1, 6);
    dueFault("long x;", 1, 5);
    dueFault("long 5+;", 1, 7);
    dueFault("long *5;", 1, 5);
    dueFault("long +5;", 1, 5);
    dueFault("long ();", 1, 6);
    dueFault("long (5;", 1, 7);
    dueFault("long 5);", 1, 6);
    dueFault("long 1<2;", 1, 6);
    dueFault("long not 1;", 1, 5);
    dueFault("may 1;", 1, 5);
    dueFault("may 1<2<3;", 1, 7);
    dueFault("may 1< =2;", 1, 7);
    dueFault("may 1=<2;", 1, 6);
    dueFault("may (1<2);", 1, 6);
    dueFault("may 1<2 and;", 1, 11);
    dueFault("may 1<2 or;", 1, 10);
    dueFault("may not;", 1, 7);
    dueFault("may 1<2 not 1<2;", 1, 8);
    dueFault("long part of 5;", 1, 10);
    dueFault("long part 5 5;", 1, 12);
    dueFault("long part 5 of;", 1, 14);
    dueFault("long part (5) of 5;", 1, 10);
    dueFault("cut 1 by 1;", 1, 10);
    dueFault("cut 1 to 1 by 1;", 1, 6);
    dueFault("cut day by 1 to 1;", 1, 4);
    dueFault("use 1 to 1;", 1, 6);
    dueFault("move 1 from 1;", 1, 7);
    dueFault("sell;", 1, 4);
    dueFault("thing 1 of 1;", 1, 8);
    dueFault("hour 1+1;", 1, 6);

    fine("long 9999;");
    fine("long 00000000000000000000009999;");
    dueFault("long 10000;", 2, 5);
    dueFault("long 99999999999999999999;", 2, 5);
    dueFault("long 4294967297;", 2, 5);
    dueFault("long 5 10000;", 1, 7);
    fine("long part 0 of part 100 of 1;");
    dueFault("long part 101 of 1;", 2, 10);

    fine("long ((((((((1))))))));");
    dueFault("long (((((((((1)))))))));", 3, 13);
    dueFault("long (((((((((", 3, 13);
    fine("long --------1;");
    dueFault("long ---------1;", 3, 13);
    dueFault("long ((((((((-1))))))));", 3, 13);
    dueFault("long ((((((((1+part 1 of 1))))))));", 3, 15);
    fine("long (1)+(2)+(3)+(4)+(5)+(6)+(7)+(8)+(9)+(10);");
    fine("long -1--2--3--4--5--6--7--8--9--10;");
    fine("long ((((((((1))))))))-((((((((1))))))));");
    fine("long ((((((((1-1-1))))))));");
    fine("may not not not not not not not not 1<2;");
    dueFault("may not not not not not not not not not 1<2;", 3, 36);
    dueFault("may not not not not not not not not (1)<2;", 3, 36);
    dueFault("may not not not not not not not not 1<-2;", 3, 38);
    fine("may not not not not not not not not 1<2 and not not not not not not not not 1<2 or ((((((((1))))))))<2;");
    dueFault("may not -(part 1 of not 1<2;", 1, 20);
    dueFault("long part 1 of part 1 of part 1 of part 1 of part 1 of part 1 of part 1 of part 1 of part 101 of 1;", 3, 85);

    for (String law : new String[] {"long", "grows", "spoils", "sells"}) dueFault(law + " 1;" + law + ";", 4, law.length() + 3);
    dueFault("may 1<2;hour 1;may 1<2;", 4, 15);
    fine("long 1;grows 1;spoils 1;sells 1;may 1<2;");

    fine("hour 1;".repeat(24));
    dueFault("hour 1;".repeat(24) + "hour 1;", 6, 168);
    dueFault("hour 1;".repeat(24) + "  long 1;", 6, 170);
    dueFault("hour 1;".repeat(24) + " x", 1, 169);
    dueFault("hour 1;".repeat(24) + ";", 1, 168);
    dueFault("hour 1;".repeat(24) + "hour", 6, 168);
    dueFault("long 1;" + "hour 1;".repeat(23) + "long 1;", 4, 168);
    dueFault("long 1;" + "hour 1;".repeat(23) + "grows 1;", 6, 168);
    dueFault("hour 1;".repeat(23) + "hour 61;hour 1;", 2, 166);
  }

  private static void names() {
    promise(15, "fault, of names");
    String[] names = {"day", "kind", "height", "grown", "hour", "cloud", "dark", "length", "here", "owner", "shadow"};
    String[] laws = {"long", "grows", "spoils", "sells", "may"};
    String[] of = {"day kind height grown hour cloud", "day kind height grown cloud", "day kind dark length here",
        "day kind hour dark length", "day kind height grown hour owner shadow"};
    for (int i = 0; i < laws.length; i++) {
      for (String name : names) {
        boolean has = Arrays.asList(of[i].split(" ")).contains(name);
        String text = laws[i] + " " + name + (laws[i].equals("may") ? "<1;" : ";");
        dueFault(text, has ? 0 : 5, has ? NONE : laws[i].length() + 1);
      }
    }
    dueFault("long 1;spoils here+owner;", 5, 19);
    dueFault("may 1<length;", 5, 6);
  }

  private static void numbers() {
    promise(15, "fault, of numbers");
    String[][] forms = {{"thing ", "1", "99", " kind 1 of 1;"}, {"thing 1 kind ", "0", "5", " of 1;"}, {"thing 1 kind 1 of ", "0", "4", ";"},
        {"reaper ", "1", "99", ";"}, {"barn ", "1", "999", ";"}, {"cut ", "0", "7", " by 1 to 1;"}, {"cut 1 by ", "0", "3", " to 1;"},
        {"cut 1 by 1 to ", "0", "3", ";"}, {"last ", "0", "3", " to 1;"}, {"last 1 to ", "0", "3", ";"}, {"use ", "1", "999", " from 1;"},
        {"use 1 from ", "0", "3", ";"}, {"move ", "0", "11", " to 1;"}, {"move 1 to ", "0", "3", ";"}, {"sell ", "0", "11", ";"},
        {"hour ", "1", "60", ";"}};
    for (String[] f : forms) {
      int least = Integer.parseInt(f[1]);
      int greatest = Integer.parseInt(f[2]);
      fine(f[0] + least + f[3]);
      fine(f[0] + greatest + f[3]);
      dueFault(f[0] + (greatest + 1) + f[3], 2, f[0].length());
      dueFault(f[0] + "10000" + f[3], 2, f[0].length());
      if (least == 1) dueFault(f[0] + "0" + f[3], 2, f[0].length());
      dueFault(f[0] + "-1" + f[3], 1, f[0].length());
    }
  }

  private static void by() {
    promise(16, "by");
    BaledShade x = small();
    due("by(NONE)", x.by(NONE), true);
    due("by(0)", x.by(0), false);
    tell(x, "long 5;");
    tell(x, "long 6;");
    due("about(9)", x.about(9), NONE);
    due("by(1)", x.by(1), true);
    due("about(9)", x.about(9), 1);
    due("of(0, 4)", x.of(0, 4), 6);
    for (int v : new int[] {-2, 2, 4, Integer.MAX_VALUE, Integer.MIN_VALUE}) due("by(v)", x.by(v), false);
    due("about(9)", x.about(9), 1);
    due("by(0)", x.by(0), true);
    due("of(0, 4)", x.of(0, 4), 5);
    due("by(NONE)", x.by(NONE), true);
    due("of(0, 4)", x.of(0, 4), 30);
    due("about(9)", x.about(9), NONE);
    due("steps", x.about(10), 0);
  }

  /** What a SUM is, seen as the price of a BALE of KIND 1, LENGTH 30 that is DARK 2, on DAY 2 at HOUR 3. */
  private static void dueSum(String sum, int want) {
    BaledShade x = small();
    x.cut(0, 0, 0);
    rule(x, "spoils 0;");
    x.hour(23);
    rule(x, "sells " + sum + ";");
    due(sum, x.bale(0, 5), want);
  }

  private static void sums() {
    promise(16, "sums");
    dueSum("7-2-1", 4);
    dueSum("7-(2-1)", 6);
    dueSum("2+3*4", 14);
    dueSum("(2+3)*4", 20);
    dueSum("100/7*7", 98);
    dueSum("100/(7*7)", 2);
    dueSum("10-7/2", 7);
    dueSum("(0-7)/2+10", 7);
    dueSum("7/(0-2)+10", 7);
    dueSum("5/0+1", 1);
    dueSum("-3*-4", 12);
    dueSum("--5", 5);
    dueSum("-2+5", 3);
    dueSum("9-part 50 of 7", 6);
    dueSum("9+part 50 of -7", 6);
    dueSum("part 50 of 3*4", 4);
    dueSum("part 50 of (3*4)", 6);
    dueSum("part 100 of 9999", 9999);
    dueSum("part 0 of 9999", 0);
    dueSum("part 33 of part 50 of 700", 115);
    dueSum("part 1 of (9999*9999)", 9999);
    dueSum("part 1 of (9999*9999)-9998", 2);
    dueSum("9999*9999/1000", 1000);
    dueSum("9999*100*9999/1000", 1000);
    dueSum("(0-9999*9999)*2/200+5001", 1);
    dueSum("0-9999*9999-9999+1000*1000+5", 5);
    dueSum("9999*9999+9999-1000*1000+5", 5);
    dueSum("day*1000+kind*100+hour*10+dark", 2132);
    dueSum("length", 30);
    dueSum("9999", 9999);
    dueSum("9999+1", 9999);
    dueSum("0-1", 0);
    dueSum("((((((((6))))))))", 6);
    dueSum("1-(2-(3-(4-(5-(6-(7-(8-9)))))))*2", 9);
  }

  private static void dueMay(String either, int want) {
    BaledShade x = new BaledShade();
    x.thing(10, 3, 2);
    rule(x, "may " + either + ";");
    due(either, x.of(0, 6), want);
  }

  private static void asks() {
    promise(19, "may");
    String[] signs = {"<", "<=", ">", ">=", "=", "#"};
    int[][] want = {{1, 0, 0}, {1, 1, 0}, {0, 0, 1}, {0, 1, 1}, {0, 1, 0}, {1, 0, 1}};
    for (int i = 0; i < signs.length; i++) {
      for (int k = 1; k <= 3; k++) dueMay(k + signs[i] + 2, want[i][k - 1]);
    }
    dueMay("1=1 or 1=1 and 1=2", 1);
    dueMay("1=2 and 1=1 or 1=1", 1);
    dueMay("1=2 and 1=1 or 1=2", 0);
    dueMay("1=2 or 1=2 and 1=1 or 1=2", 0);
    dueMay("1=2 or 1=1 and 1=1 or 1=2", 1);
    dueMay("1=2 or 1=2 or 1=1", 1);
    dueMay("1=1 and 1=1 and 1=2", 0);
    dueMay("1=1 and 1=1 and 1=1", 1);
    dueMay("1=1 and 1<2 and 1<=2 and 2>1 and 2>=1 and 1#2", 1);
    dueMay("not 1<2 or not 1<=2 or not 2>1 or not 2>=1 or not 1#2 or not 1=1", 0);
    dueMay("not 2<1 and not 2<=1 and not 1>2 and not 1>=2 and not 1#1 and not 1=2", 1);
    dueMay("not 1=2 and 1=2", 0);
    dueMay("not 1=1", 0);
    dueMay("not not 1=1", 1);
    dueMay("not not not 1=2 or 1=2", 1);
    dueMay("owner=2 and kind=3 and height=10 and grown=100 and shadow=30 and hour=0 and day=0", 1);
    dueMay("owner*0=0-0 and -5<-4", 1);
    dueMay("9999*9999=9999*9998", 1);
  }

  private static void laws() {
    promise(19, "the laws");
    BaledShade x = big();
    x.hour(23);
    due("cloud", x.about(5), 2);
    rule(x, "long day*100+kind*10+hour;grows height-grown+cloud+kind;");
    due("long", x.of(1, 4), 223);
    due("grows", x.of(1, 5), 3);
    rule(x, "long height+grown+cloud;grows day;");
    due("long", x.of(1, 4), 201);
    due("grows", x.of(1, 5), 2);
    rule(x, "long 1000;grows 101;");
    due("long, 999 at most", x.of(1, 4), 999);
    due("grows, 100 at most", x.of(1, 5), 100);
    rule(x, "long 0-1;grows 0-1;");
    due("long, 0 at least", x.of(1, 4), 0);
    due("grows, 0 at least", x.of(1, 5), 0);
    x = six();
    rule(x, "spoils here*100+length*2+dark+kind+day;");
    due("spoils", x.bale(4, 4), 342);
    rule(x, "spoils 1000;sells 10000/1;".replace("10000", "5000+9999"));
    due("spoils, 999 at most", x.bale(4, 4), 999);
    due("sells, 9999 at most", x.bale(4, 5), 9999);
    rule(x, "spoils 0-1;sells kind*10+hour;");
    due("spoils, 0 at least", x.bale(4, 4), 0);
    due("sells", x.bale(4, 5), 21);
    x.hour(9);
    due("nothing is spoiled", x.bale(4, 1), 20);
    x = small();
    rule(x, "may shadow>30 or grown<50;");
    due("may", x.of(0, 6), 0);
    x.by(NONE);
    due("without", x.of(0, 6), 1);
  }

  private static void played() {
    promise(17, "played");
    BaledShade x = new BaledShade();
    for (int v : new int[] {-1, 0, 4, Integer.MAX_VALUE, Integer.MIN_VALUE}) due("played(v)", x.played(v), -2);
    tell(x, "thing 10 kind 3 of 2;reaper 20;barn 40;barn 50;cut 0 by 0 to 1;hour 2;last 0 to 0;use 5 from 1;move 0 to 0;"
        + "sell 1;long 7;");
    due("all is done", x.played(0), NONE);
    due("the laws don't rule by it", x.about(9), NONE);
    due("of(0, 0)", x.of(0, 0), 10);
    due("of(0, 1)", x.of(0, 1), 3);
    due("of(0, 2)", x.of(0, 2), 2);
    due("ofReaper(0, 0)", x.ofReaper(0, 0), 20);
    due("ofReaper(0, 1)", x.ofReaper(0, 1), 0);
    due("ofBarn(1, 0)", x.ofBarn(1, 0), 50);
    due("bale(0, 1)", x.bale(0, 1), 15);
    due("bale(0, 3)", x.bale(0, 3), 0);
    due("pence", x.about(6), 20);
    due("hour", x.about(3), 2);
    due("steps", x.about(10), 7);
    tell(x, "hour 1;sells 1;barn 7;hour 1;cut 0 by 0 to 0;hour 1;");
    due("its number among all", x.played(1), 4);
    due("what was done stays", x.about(2), 3);
    due("hour", x.about(3), 4);
    tell(x, "sell 1;");
    due("there is none", x.played(2), 0);
    due("texts", x.played(3), -2);
    tell(x, "");
    due("nothing to do", x.played(3), NONE);

    String[] cant = {"thing 1 kind 1 of 1;", "reaper 1;", "barn 1;", "last 3 to 3;", "use 9 from 0;", "move 3 to 0;", "move 0 to 0;", "sell 5;",
        "cut 7 by 3 to 3;"};
    for (String c : cant) {
      x = small();
      x.cut(0, 0, 0);
      for (int i = 0; i < 8 && !c.startsWith("cut"); i++) x.thing(1, 1, 1);
      for (int i = 0; i < 3 && !c.startsWith("last") && !c.startsWith("cut"); i++) x.reaper(1);
      for (int i = 0; i < 3; i++) x.barn(1);
      if (c.startsWith("use")) x.use(30, 0);
      tell(x, "hour 1;" + c);
      due("played " + c, x.played(0), 1);
    }
    x = small();
    hours(x, 9995);
    tell(x, "hour 4;hour 2;");
    int steps = x.about(10);
    due("steps", steps, 30);
    due("those that can pass do", x.played(0), 1);
    due("hour", x.about(3), 9);
    for (int i = 0; i < 4; i++) x.undo();
    due("four have passed", x.about(3), 5);
    tell(x, "hour 60;");
    due("played(1)", x.played(1), 0);
    due("hour", x.about(3), 9);
  }

  private static void undo() {
    promise(18, "undo");
    BaledShade x = six();
    due("undo of a cut", x.undo(), 6);
    due("bale", x.bale(5, 1), NONE);
    due("has cut", x.ofReaper(2, 2), 0);
    due("undo", x.undo(), 5);
    due("undo", x.undo(), 4);
    due("undo of an hour", x.undo(), 3);
    due("hour", x.about(3), 0);
    due("has cut", x.ofReaper(0, 2), 1);
    due("grown", x.of(0, 3), 87);
    due("undo", x.undo(), 2);
    due("grown", x.of(0, 3), 97);
    x.undo();
    due("the last", x.undo(), 0);
    due("none is left", x.undo(), NONE);
    due("grown", x.of(0, 3), 100);

    x = six();
    x.sell(0);
    x.use(5, 0);
    x.move(4, 0);
    x.decades(7, 30);
    due("steps", x.about(10), 11);
    due("undo of decades", x.undo(), 10);
    dueAbout(x, "behind it", 2, 3, 2, 1, 0, 0, 10, 83);
    x.undo();
    due("undo of a move", x.bale(4, 3), 1);
    x.undo();
    due("undo of a use", x.bale(1, 1), 20);
    x.undo();
    due("undo of a sale", x.bale(0, 1), 10);
    due("pence", x.about(6), 0);

    x = small();
    x.hour(9);
    x.cut(0, 0, 0);
    x.hour(1);
    due("cloud", x.about(5), 3);
    x.undo();
    dueAbout(x, "behind undo of a day", 1, 1, 1, 9, 0, 0, 0, 83);
    due("dark", x.bale(0, 2), 0);
    x.undo();
    x.undo();
    x.thing(5, 5, 4);
    x.reaper(9);
    x.hour(2);
    due("a step is taken back", x.undo(), 9);
    x.cut(1, 1, 0);
    x.last(1, 0);
    due("told since: cut", x.of(1, 3) < 100, true);
    for (int i = 0; i < 12; i++) x.undo();
    due("told since: grown", x.of(1, 3), 100);
    due("told since: there", x.ofReaper(1, 1), 1);
    due("told since: not cut", x.ofReaper(1, 2), 0);
    due("told since: told", x.about(0), 2);

    x = small();
    x.hour(31);
    due("the latest 30", x.about(10), 30);
    for (int i = 29; i >= 0; i--) due("undo", x.undo(), i);
    due("undo", x.undo(), NONE);
    due("hour", x.about(3), 1);
    x.hour(60);
    x.undo();
    due("again", x.undo(), 28);
    x.hour(5);
    due("again", x.about(10), 30);
    for (int i = 0; i < 30; i++) x.undo();
    due("what can't be leaves the oldest", x.about(4) * 10 + x.about(3), 34);
    x = small();
    x.hour(30);
    x.cut(5, 5, 5);
    x.sell(11);
    x.use(999, 0);
    for (int i = 0; i < 30; i++) x.undo();
    due("back at the first hour", x.about(4) * 10 + x.about(3), 0);
  }

  private static void of() {
    promise(19, "of");
    BaledShade x = small();
    x.thing(99, 5, 4);
    for (int v : new int[] {-1, 2, 8, Integer.MAX_VALUE, Integer.MIN_VALUE}) due("of(v, 0)", x.of(v, 0), NONE);
    for (int v : new int[] {-1, 7, Integer.MAX_VALUE, Integer.MIN_VALUE}) due("of(0, v)", x.of(0, v), NONE);
    int[] want = {99, 5, 4, 100, 297, 10, 1};
    for (int i = 0; i < want.length; i++) due("of(1, " + i + ")", x.of(1, i), want[i]);
    int[] shadows = {30, 25, 20, 15, 10, 5, 10, 15, 20, 25};
    for (int h = 0; h < 10; h++) {
      due("of(0, 4) at " + h, x.of(0, 4), shadows[h]);
      x.hour(1);
    }
  }

  private static void ofReaper() {
    promise(20, "ofReaper");
    BaledShade x = small();
    for (int v : new int[] {-1, 1, 4, Integer.MAX_VALUE, Integer.MIN_VALUE}) due("ofReaper(v, 0)", x.ofReaper(v, 0), NONE);
    for (int v : new int[] {-1, 3, Integer.MAX_VALUE, Integer.MIN_VALUE}) due("ofReaper(0, v)", x.ofReaper(0, v), NONE);
    due("ofReaper(0, 0)", x.ofReaper(0, 0), 30);
    due("ofReaper(0, 1)", x.ofReaper(0, 1), 1);
    due("ofReaper(0, 2)", x.ofReaper(0, 2), 0);
  }

  private static void bale() {
    promise(21, "bale");
    BaledShade x = six();
    for (int v : new int[] {-1, 6, 12, Integer.MAX_VALUE, Integer.MIN_VALUE}) due("bale(v, 0)", x.bale(v, 0), NONE);
    for (int v : new int[] {-1, 6, Integer.MAX_VALUE, Integer.MIN_VALUE}) due("bale(0, v)", x.bale(0, v), NONE);
    int[] want = {2, 20, 0, 1, 1, 20};
    for (int i = 0; i < want.length; i++) due("bale(4, " + i + ")", x.bale(4, i), want[i]);
  }

  private static void ofBarn() {
    promise(22, "ofBarn");
    BaledShade x = six();
    for (int v : new int[] {-1, 2, 4, Integer.MAX_VALUE, Integer.MIN_VALUE}) due("ofBarn(v, 0)", x.ofBarn(v, 0), NONE);
    for (int v : new int[] {-1, 2, Integer.MAX_VALUE, Integer.MIN_VALUE}) due("ofBarn(0, v)", x.ofBarn(0, v), NONE);
    due("ofBarn(0, 0)", x.ofBarn(0, 0), 999);
    due("ofBarn(0, 1)", x.ofBarn(0, 1), 60);
  }

  private static void foretold() {
    promise(23, "foretold");
    BaledShade x = small();
    x.cut(0, 0, 0);
    for (int v : new int[] {-1, 0, 61, Integer.MAX_VALUE, Integer.MIN_VALUE}) due("foretold(v, 0)", x.foretold(v, 0), NONE);
    for (int v : new int[] {-1, 1, 8, Integer.MAX_VALUE, Integer.MIN_VALUE}) due("foretold(1, v)", x.foretold(1, v), NONE);
    due("foretold(1, 0)", x.foretold(1, 0), 0);
    due("foretold(9, 0)", x.foretold(9, 0), 0);
    due("foretold(10, 0)", x.foretold(10, 0), 10);
    due("foretold(40, 0): no growth under a cloud of 9", x.foretold(40, 0), 30);
    due("foretold(60, 0)", x.foretold(60, 0), 50);
    dueAbout(x, "behind foretelling", 1, 1, 1, 0, 0, 0, 0, 83);
    due("has cut", x.ofReaper(0, 2), 1);
    due("steps", x.about(10), 1);
    hours(x, 9990);
    x.cut(0, 0, 0);
    due("those that can pass do", x.foretold(60, 0), x.of(0, 3));
  }

  private static void stored() {
    promise(24, "stored");
    BaledShade x = six();
    for (int v : new int[] {-1, 0, 61, Integer.MAX_VALUE, Integer.MIN_VALUE}) due("stored(v, 0)", x.stored(v, 0), NONE);
    for (int v : new int[] {-1, 2, 4, Integer.MAX_VALUE, Integer.MIN_VALUE}) due("stored(1, v)", x.stored(1, v), NONE);
    due("stored(1, 0)", x.stored(1, 0), 60);
    due("stored(8, 0)", x.stored(8, 0), 60);
    due("stored(9, 1)", x.stored(9, 1), 57);
    due("stored(60, 1)", x.stored(60, 1), 42);
    due("nothing is changed", x.ofBarn(1, 1), 60);
    rule(x, "spoils dark*2+1;");
    due("stored(19, 0)", x.stored(19, 0), 48);
  }

  private static void most() {
    promise(25, "most");
    BaledShade x = small();
    x.thing(20, 2, 4);
    for (int v : new int[] {-1, 1, 4, Integer.MAX_VALUE, Integer.MIN_VALUE}) {
      due("most(v, 0, 1, -1)", x.most(v, 0, 1, -1), NONE);
      due("most(0, v, 1, -1)", x.most(0, v, 1, -1), NONE);
    }
    for (int v : new int[] {-1, 0, 5, Integer.MAX_VALUE, Integer.MIN_VALUE}) due("most(0, 0, v, -1)", x.most(0, 0, v, -1), NONE);
    for (int v : new int[] {-2, 3, 4, 8, Integer.MAX_VALUE, Integer.MIN_VALUE}) due("most(0, 0, 3, v)", x.most(0, 0, 3, v), NONE);
    // 30 of thing 0 or 1 now, 20 of thing 0 at hour 2 fit: none at hour 1 comes ahead of none at hour 2
    due("most(0, 0, 3, -1)", x.most(0, 0, 3, -1), 50);
    due("most(0, 0, 3, 0)", x.most(0, 0, 3, 0), 8);
    due("most(0, 0, 3, 1)", x.most(0, 0, 3, 1), 1);
    due("most(0, 0, 3, 2)", x.most(0, 0, 3, 2), 0);
    due("most(0, 0, 1, 0), the lowest thing", x.most(0, 0, 1, 0), 0);
    due("nothing is changed", x.about(10) + x.about(3) + x.ofBarn(0, 1), 0);
    x.cut(0, 0, 0);
    due("it has cut", x.most(0, 0, 1, -1), 0);
    due("it has cut", x.most(0, 0, 1, 0), 8);
    due("in the next hour", x.most(0, 0, 2, 1), 8);
    x.use(20, 0);
    due("in the next hour", x.most(0, 0, 2, 1), 1);
    due("in the next hour", x.most(0, 0, 2, -1), 30);
    rule(x, "may owner#4;");
    due("what can't be cut isn't", x.most(0, 0, 4, -1), 0);
    x = small();
    x.last(0, 0);
    due("gone", x.most(0, 0, 4, -1), 0);
    due("gone", x.most(0, 0, 4, 3), 8);
    x = small();
    hours(x, 9999);
    due("the hour can't pass", x.most(0, 0, 4, -1), 25);
    due("of like ones the latest", x.most(0, 0, 4, 0), 8);
    due("of like ones the latest", x.most(0, 0, 4, 3), 0);
    x = big();
    x.hour(9);
    rule(x, "long grown;");
    x.cut(0, 2, 0);
    x.cut(0, 1, 0);
    x.cut(0, 0, 0);
    due("over the day: 50 there and 10 more", x.most(2, 1, 4, -1), 90);
    rule(x, "long grown*(2-kind);");
    due("40, then 10, then 0 are left", x.of(0, 4), 40);
    due("over the day", x.most(2, 1, 4, -1), 50);
    due("none first", x.most(2, 1, 4, 0), 8);
    due("then none", x.most(2, 1, 4, 1), 8);
    due("then it", x.most(2, 1, 4, 2), 0);
    due("then it", x.most(2, 1, 4, 3), 0);
  }

  private static void need() {
    promise(26, "need");
    BaledShade x = new BaledShade();
    for (int v : new int[] {-2, 1000, Integer.MAX_VALUE, Integer.MIN_VALUE}) due("need(v, 1)", x.need(v, 1), -2);
    for (int v : new int[] {-1, 0, 1000, Integer.MAX_VALUE, Integer.MIN_VALUE}) due("need(1, v)", x.need(1, v), -2);
    due("need(0, 1)", x.need(0, 1), 1);
    due("need(999, 999)", x.need(999, 999), 2);
    for (int i = 3; i <= 8; i++) due("need(5, 5)", x.need(5, 5), i);
    due("a ninth need", x.need(5, 5), -2);
    due("about(11)", x.about(11), 8);
    due("need(NONE, 77777)", x.need(NONE, 77777), 0);
    due("about(11)", x.about(11), 0);
    due("need(5, 5)", x.need(5, 5), 1);
  }

  private static void unmet() {
    promise(27, "unmet");
    BaledShade x = six();
    for (int v : new int[] {-1, 0, 21, Integer.MAX_VALUE, Integer.MIN_VALUE}) due("unmet(v)", x.unmet(v), NONE);
    x.need(0, 999);
    due("of this day", x.unmet(20), NONE);
    x.need(3, 103);
    due("behind three days 102 are left", x.unmet(3), 1);
    due("two days", x.unmet(2), NONE);
    x.need(NONE, 0);
    x.need(3, 102);
    due("just so many", x.unmet(3), NONE);
    x.need(3, 1);
    due("then nothing is left", x.unmet(3), 1);
    x.need(1, 10);
    due("what was used on day 1 is none on day 3", x.unmet(3), 0);
    x.need(2, 100);
    due("the first that can't be", x.unmet(3), 3);
    due("nothing is changed", x.ofBarn(0, 1) + x.ofBarn(1, 1) + x.about(3) + x.about(4), 121);
    x.need(NONE, 0);
    x.need(20, 1);
    x.need(21, 999);
    due("20 days", x.unmet(20), NONE);
    due("21 days", x.unmet(21), NONE);
    hours(x, 200);
    due("the next day", x.unmet(1), 1);
    x = six();
    x.need(2, 999);
    x.hour(8);
    due("at hour 9 one day", x.unmet(1), NONE);
    due("at hour 9 two days", x.unmet(2), 0);
    x.hour(1);
    due("at hour 0 one day", x.unmet(1), 0);
    x = six();
    hours(x, 9987);
    due("day", x.about(4), 998);
    x.need(999, 1);
    due("no day behind the last", x.unmet(20), 0);
    x.hour(2);
    due("no day behind the last", x.unmet(20), NONE);

    // 0 (10 feet) is darker by a day: it is used whole, so that only 1 spoils
    x = big();
    x.cut(0, 0, 0);
    x.hour(10);
    x.cut(1, 1, 1);
    x.need(2, 8);
    x.need(3, 18);
    due("the greatest dark first", x.unmet(2), NONE);
    x.need(3, 1);
    due("one foot more", x.unmet(2), 2);
  }

  private static void enough() {
    promise(28, "enough");
    BaledShade x = six();
    for (int v : new int[] {-1, 0, 10000, Integer.MAX_VALUE, Integer.MIN_VALUE}) due("enough(v, 0)", x.enough(v, 0), NONE);
    for (int v : new int[] {-1, 61, Integer.MAX_VALUE, Integer.MIN_VALUE}) due("enough(1, v)", x.enough(1, v), NONE);
    due("enough(1, 0)", x.enough(1, 0), 1);
    due("enough(11, 0)", x.enough(11, 0), 2);
    due("enough(30, 0)", x.enough(30, 0), 4);
    due("enough(31, 0)", x.enough(31, 0), 5);
    due("enough(60, 0)", x.enough(60, 0), 36);
    due("enough(61, 0)", x.enough(61, 0), 22);
    due("enough(120, 0)", x.enough(120, 0), 63);
    due("enough(121, 0)", x.enough(121, 0), NONE);
    due("enough(9999, 60)", x.enough(9999, 60), NONE);
    due("enough(60, 9)", x.enough(60, 9), 22);
    due("enough(30, 8)", x.enough(30, 8), 4);
    due("enough(30, 9)", x.enough(30, 9), 5);
    rule(x, "spoils 25;");
    due("those that are none aren't counted", x.enough(5, 9), 4);
    due("those that are none aren't counted", x.enough(10, 9), 36);
    due("those that are none aren't counted", x.enough(11, 9), NONE);
    due("nothing is changed", x.ofBarn(0, 1), 60);
    x = big();
    for (int i = 0; i < 12; i++) {
      x.cut(i % 2, i == 11 ? 1 : 0, 0);
      x.hour(1);
    }
    rule(x, "spoils 0;");
    for (int i = 0; i < 12; i++) due("bale", x.bale(i, 1) > 0, true);
    due("the greatest number", x.enough(15, 0), 2048);
    due("and the lowest", x.enough(22, 0), 2049);
    due("all", x.enough(x.ofBarn(0, 1), 0), 4095);
    due("more than all", x.enough(x.ofBarn(0, 1) + 1, 0), NONE);
  }

  private static void over() {
    promise(29, "over");
    BaledShade x = small();
    x.thing(20, 2, 4);
    for (int v : new int[] {-1, 2, 8, Integer.MAX_VALUE, Integer.MIN_VALUE}) due("over(v, 1, 0, 0)", x.over(v, 1, 0, 0), NONE);
    for (int v : new int[] {-1, 0, 9, Integer.MAX_VALUE, Integer.MIN_VALUE}) due("over(0, v, 0, 0)", x.over(0, v, 0, 0), NONE);
    for (int v : new int[] {-1, 10, Integer.MAX_VALUE, Integer.MIN_VALUE}) due("over(0, 1, v, 0)", x.over(0, 1, v, 0), NONE);
    for (int v : new int[] {-1, 2, Integer.MAX_VALUE, Integer.MIN_VALUE}) due("over(0, 1, 0, v)", x.over(0, 1, 0, v), NONE);
    due("over(0, 1, 5, 0), at a told hour", x.over(0, 1, 5, 0), 5);
    due("over(0, 1, 0, 0)", x.over(0, 1, 0, 0), 30);
    due("over(0, 1, 9, 0)", x.over(0, 1, 9, 0), 25);
    due("over(1, 3, 0, 0): 60, 6, 6 or 60, 12", x.over(1, 3, 0, 0), 72);
    due("over(1, 3, 0, 1): none first", x.over(1, 3, 0, 1), 5);
    due("nothing is changed", x.of(1, 3), 100);
    rule(x, "long 7;");
    due("over(0, 8, 3, 0)", x.over(0, 8, 3, 0), 56);
    due("over(0, 8, 3, 1)", x.over(0, 8, 3, 1), 255);
    rule(x, "long grown*day/10;grows 100;");
    due("the days go on", x.over(0, 3, 0, 0), 30);
    due("0 on day 0 is like none", x.over(0, 3, 0, 1), 6);
    rule(x, "long grown;grows day*10;");
    due("grows is 0 behind day 0, 10 behind day 1", x.over(0, 3, 0, 0), 110);
    due("none first", x.over(0, 3, 0, 1), 6);
    x = small();
    rule(x, "long grown;grows cloud;may 1>2;");
    x.hour(40);
    due("cloud", x.about(5), 9);
    due("it grows under any cloud, though none may cut", x.over(0, 2, 0, 0), 109);
    hours(x, 9950);
    int cloud = x.about(5);
    due("day", x.about(4), 999);
    due("behind the last day too", x.over(0, 3, 0, 0), 100 + 2 * cloud);
    x = small();
    x.cut(0, 0, 0);
    due("grown as now", x.over(0, 2, 0, 0), 3);
    due("grown as now", x.over(0, 2, 0, 1), 2);
  }

  private static void whose() {
    promise(30, "whose");
    BaledShade x = small();
    x.thing(20, 1, 4);
    x.thing(10, 2, 4);
    for (int v : new int[] {-1, 6, Integer.MAX_VALUE, Integer.MIN_VALUE}) due("whose(v, 1, 0)", x.whose(v, 1, 0), NONE);
    for (int v : new int[] {-1, 0, 1000, Integer.MAX_VALUE, Integer.MIN_VALUE}) due("whose(1, v, 0)", x.whose(1, v, 0), NONE);
    for (int v : new int[] {-1, 1000, Integer.MAX_VALUE, Integer.MIN_VALUE}) due("whose(1, 1, v)", x.whose(1, 1, v), NONE);
    x.cut(0, 0, 0);
    due("whose(1, 30, 0)", x.whose(1, 30, 0), 3);
    due("whose(1, 15, 999)", x.whose(1, 15, 999), 1);
    due("whose(2, 15, 0)", x.whose(2, 15, 0), 4);
    due("whose(0, 15, 0)", x.whose(0, 15, 0), 0);
    due("whose(5, 999, 999)", x.whose(5, 999, 999), 0);
    due("whose(0, 1, 0)", x.whose(0, 1, 0), 0);
    due("at(0, 1, 0)", x.at(0, 1, 0), 0);
    due("whose(1, 31, 0)", x.whose(1, 31, 0), 0);
    promise(31, "at");
    for (int v : new int[] {-1, 3, 8, Integer.MAX_VALUE, Integer.MIN_VALUE}) due("at(v, 1, 0)", x.at(v, 1, 0), NONE);
    for (int v : new int[] {-1, 0, 1000, Integer.MAX_VALUE, Integer.MIN_VALUE}) due("at(0, v, 0)", x.at(0, v, 0), NONE);
    for (int v : new int[] {-1, 1000, Integer.MAX_VALUE, Integer.MIN_VALUE}) due("at(0, 1, v)", x.at(0, 1, v), NONE);
    due("at(0, 30, 0)", x.at(0, 30, 0), 1);
    due("at(0, 25, 999)", x.at(0, 25, 999), 514);
    due("at(0, 5, 0)", x.at(0, 5, 0), 32);
    due("at(0, 7, 0)", x.at(0, 7, 0), 0);
    x.hour(45);
    rule(x, "long day+hour*100+cloud;");
    due("at(0, 999, 99): without a cloud", x.at(0, 999, 99), 512);
    due("at(0, 104, 104)", x.at(0, 104, 104), 1);
    due("at(0, 104, 4)", x.at(0, 104, 4), 2);
    due("whose(1, 104, 4)", x.whose(1, 104, 4), 3);
    x.by(tell(x, "long grown;"));
    due("at(0, 100, 0): grown", x.at(0, 100, 0), 1023);
  }

  private static void leave() {
    promise(32, "leave");
    BaledShade x = new BaledShade();
    for (int v : new int[] {-1, 10000, Integer.MAX_VALUE, Integer.MIN_VALUE}) {
      due("leave(v, 0, 0, 0)", x.leave(v, 0, 0, 0), NONE);
      due("leave(0, v, 0, 0)", x.leave(0, v, 0, 0), NONE);
      due("leave(0, 0, v, 0)", x.leave(0, 0, v, 0), NONE);
      due("leave(0, 0, 0, v)", x.leave(0, 0, 0, v), NONE);
    }
    due("without things", x.leave(0, 0, 0, 0), NONE);
    x.thing(10, 1, 0);
    x.thing(20, 1, 1);
    x.thing(30, 1, 2);
    x.thing(40, 1, 3);
    x.thing(50, 1, 4);
    // 30, 60, 90, 120; the commons 150
    due("leave(10000, 0, 0, 0)", x.leave(10000, 0, 0, 0), NONE);
    due("leave(0, 10000, 0, 0)", x.leave(0, 10000, 0, 0), NONE);
    due("leave(0, 0, 10000, 0)", x.leave(0, 0, 10000, 0), NONE);
    due("leave(0, 0, 0, 10000)", x.leave(0, 0, 0, 10000), NONE);
    due("leave(9999, 0, 0, 0)", x.leave(9999, 0, 0, 0), 2);
    due("leave(30, 9999, 0, 0)", x.leave(30, 9999, 0, 0), 4);
    due("leave(29, 0, 0, 0)", x.leave(29, 0, 0, 0), 1);
    due("leave(30, 59, 90, 120)", x.leave(30, 59, 90, 120), 2);
    due("leave(30, 61, 89, 120)", x.leave(30, 61, 89, 120), 4);
    due("leave(31, 61, 91, 119)", x.leave(31, 61, 91, 119), 7);
    due("leave(130, 160, 90, 119)", x.leave(130, 160, 90, 119), 8);
    due("leave(130, 61, 9999, 139)", x.leave(130, 61, 9999, 139), 11);
    due("leave(9999, 110, 140, 169)", x.leave(9999, 110, 140, 169), 14);
    due("leave(9999, 110, 140, 170)", x.leave(9999, 110, 140, 170), NONE);
    due("leave(9999, 9999, 9999, 9999)", x.leave(9999, 9999, 9999, 9999), NONE);
    x.hour(5);
    due("as now", x.leave(5, 10, 15, 20), 7);
    due("as now", x.leave(4, 10, 15, 20), 1);
  }

  private static void packed() {
    promise(33, "packed");
    // 0 .. 5: 10 (kind 1), 20 (2), 30 (1), 10 (1), 20 (2), 30 (1)
    BaledShade x = six();
    for (int v : new int[] {-1, 0, 4096, 64, 65, 127, Integer.MAX_VALUE, Integer.MIN_VALUE}) due("packed(v, -1)", x.packed(v, -1), NONE);
    for (int v : new int[] {-2, 2, 6, Integer.MAX_VALUE, Integer.MIN_VALUE}) due("packed(5, v)", x.packed(5, v), NONE);
    due("packed(5, -1), of one kind", x.packed(5, -1), 1);
    due("packed(5, 1)", x.packed(5, 1), 0);
    due("packed(3, -1), of two", x.packed(3, -1), 2);
    due("packed(3, 0)", x.packed(3, 0), 0);
    due("packed(3, 1)", x.packed(3, 1), 1);
    due("packed(63, -1)", x.packed(63, -1), 2);
    int[] want = {0, 1, 0, 0, 1, 0};
    for (int i = 0; i < 6; i++) due("packed(63, " + i + ")", x.packed(63, i), want[i]);
    due("packed(63, 6)", x.packed(63, 6), NONE);

    x = big();
    x.cut(0, 0, 0);
    x.cut(1, 1, 0);
    x.cut(0, 2, 0);
    x.hour(1);
    x.image();
    due("nothing is changed", x.bale(2, 3), 0);
    x = new BaledShade();
    x.thing(99, 1, 0);
    x.thing(99, 2, 0);
    x.reaper(10);
    x.reaper(20);
    x.barn(29);
    x.barn(40);
    x.barn(30);
    x.barn(9);
    x.cut(0, 0, 1);
    x.cut(0, 1, 1);
    x.hour(1);
    x.cut(1, 0, 2);
    x.cut(1, 1, 2);
    // 0: 10, 1: 20 of kind 1; 2: 10, 3: 20 of kind 2
    due("packed(3, -1)", x.packed(3, -1), 1);
    due("packed(3, 0), the lowest with room", x.packed(3, 0), 1);
    due("packed(15, -1)", x.packed(15, -1), 2);
    due("packed(15, 0)", x.packed(15, 0), 1);
    due("packed(15, 2)", x.packed(15, 2), 2);
    due("packed(15, 3)", x.packed(15, 3), 2);
    due("packed(2, 0)", x.packed(2, 0), 0);
    due("packed(14, -1), in any case two", x.packed(14, -1), 2);
    due("packed(14, 0)", x.packed(14, 0), 0);
    due("packed(14, 1)", x.packed(14, 1), 1);
    due("packed(14, 2)", x.packed(14, 2), 1);
    x = new BaledShade();
    x.thing(99, 1, 0);
    x.thing(99, 2, 0);
    x.reaper(10);
    x.reaper(20);
    x.barn(30);
    x.cut(0, 0, 0);
    x.cut(1, 1, 0);
    due("two kinds and one barn", x.packed(3, -1), NONE);
    due("two kinds and one barn", x.packed(3, 0), NONE);
    due("one", x.packed(1, 0), 0);
    x = new BaledShade();
    x.thing(99, 1, 0);
    for (int i = 0; i < 4; i++) x.reaper(20);
    x.barn(120);
    x.barn(39);
    x.barn(39);
    for (int i = 0; i < 7; i++) {
      x.cut(0, i % 4, i < 6 ? 0 : 1);
      if (i % 4 == 3) x.hour(1);
    }
    due("seven bales", x.packed(127, -1), NONE);
    due("six bales", x.packed(63, -1), 1);
    due("six others", x.packed(126, 5), 0);
  }

  private static void when() {
    promise(34, "when");
    BaledShade x = six();
    for (int v : new int[] {-1, 6, 12, Integer.MAX_VALUE, Integer.MIN_VALUE}) due("when(v, 1, 0)", x.when(v, 1, 0), NONE);
    for (int v : new int[] {-1, 61, Integer.MAX_VALUE, Integer.MIN_VALUE}) due("when(0, v, 0)", x.when(0, v, 0), NONE);
    for (int v : new int[] {-1, 2, Integer.MAX_VALUE, Integer.MIN_VALUE}) due("when(0, 1, v)", x.when(0, 1, v), NONE);
    due("when(1, 0, 0)", x.when(1, 0, 0), 0);
    due("when(1, 60, 0): the first", x.when(1, 60, 0), 0);
    due("when(1, 60, 1)", x.when(1, 60, 1), 20);
    rule(x, "sells length+dark*3;");
    due("when(1, 8, 1)", x.when(1, 8, 1), 20);
    due("when(1, 9, 0)", x.when(1, 9, 0), 9);
    due("when(1, 9, 1)", x.when(1, 9, 1), 22);
    due("when(1, 60, 0)", x.when(1, 60, 0), 59);
    due("when(1, 60, 1)", x.when(1, 60, 1), 32);
    rule(x, "sells hour+day*4;");
    due("when(1, 9, 0)", x.when(1, 9, 0), 8);
    due("when(1, 9, 1)", x.when(1, 9, 1), 9);
    rule(x, "sells day*10+1;spoils 4;");
    due("it is none on day 3", x.when(0, 60, 0), 19);
    due("it is none on day 3", x.when(0, 60, 1), 21);
    due("nothing is changed", x.about(3) + x.about(4) + x.about(6), 1);
    x = small();
    rule(x, "sells hour;spoils 0;");
    x.cut(0, 0, 0);
    hours(x, 9997);
    due("those that can pass", x.when(0, 60, 0), 2);
    due("those that can pass", x.when(0, 60, 1), 9);
    x.by(tell(x, "sells 0;"));
    due("for nothing", x.when(0, 60, 0), 0);
    due("for nothing", x.when(0, 60, 1), 0);
  }

  private static void dueHail(int n, int k, int upper, int lower) {
    due("hail(" + n + ", " + k + ", false)", new BaledShade().hail(n, k, false), upper);
    due("hail(" + n + ", " + k + ", true)", new BaledShade().hail(n, k, true), lower);
  }

  private static void hail() {
    promise(35, "hail");
    for (int v : new int[] {-1, 10, Integer.MAX_VALUE, Integer.MIN_VALUE}) {
      dueHail(v, 1, NONE, NONE);
      dueHail(1, v, NONE, NONE);
    }
    dueHail(0, 0, NONE, NONE);
    dueHail(1, 0, 1, 1);
    dueHail(9, 0, 1, 1);
    dueHail(1, 1, 1, 5);
    dueHail(2, 1, 9, 25);
    dueHail(2, 2, 1, 25);
    dueHail(3, 2, 13, 125);
    dueHail(5, 1, 2101, 3125);
    dueHail(5, 4, 21, 3125);
    dueHail(6, 5, 1, 625);
    dueHail(9, 9, 1, 1953125);
    dueHail(9, 1, 1690981, 1953125);
    dueHail(8, 9, 0, 1);
    dueHail(1, 2, 0, 1);
  }

  private static void image() {
    promise(36, "image");
    BaledShade x = six();
    x.hour(19);
    due("image()", x.image(), 2);
    promise(37, "back");
    rule(x, "long 5;");
    x.need(3, 3);
    x.decades(5, 30);
    x.thing(1, 1, 1);
    x.reaper(1);
    x.barn(1);
    x.last(0, 0);
    tell(x, "longs");
    write(x, "abc");
    due("back()", x.back(), 2);
    dueAbout(x, "behind back()", 2, 3, 2, 0, 2, 2, 0, 10584, 0, -1, 26, 0, 3);
    due("the latest fault stays", x.fault(0), 1);
    due("bale(4, 1)", x.bale(4, 1), 18);
    due("ofReaper(0, 1)", x.ofReaper(0, 1), 1);
    due("of(2, 0)", x.of(2, 0), NONE);
    due("of(0, 4)", x.of(0, 4), 99 * x.of(0, 3) * 6 / 200);
    due("the steps too", x.undo(), 25);
    due("hour", x.about(3), 9);
    due("it stays", x.back(), 2);
    due("steps", x.about(10), 26);
    x.thing(7, 7 - 2, 4);
    due("told anew", x.of(2, 0), 7);
    due("told anew", x.of(2, 3), 100);
    rule(x, "long 5;hour 3;");
    x.need(4, 400);
    due("image() with all of it", x.image(), 2);
    tell(x, "long 6;");
    x.by(NONE);
    x.need(NONE, 0);
    x.need(9, 1);
    x.need(9, 9);
    x.hour(60);
    due("back()", x.back(), 2);
    dueAbout(x, "behind back()", 3, 3, 2, 0, 2, 2, 0, 10584, 1, 0, 26, 1, 0);
    due("of(0, 4)", x.of(0, 4), 5);
    due("the text is there", x.played(0), NONE);
    due("hour", x.about(3), 3);
    due("by(1)", x.by(1), false);
    due("the need of old", x.unmet(2), 0);
    due("not before", x.unmet(1), NONE);
    due("a need more", x.need(5, 5), 2);

    x = small();
    x.hour(2);
    x.image();
    x.thing(9, 1, 1);
    x.reaper(9);
    x.cut(1, 1, 0);
    x.last(1, 0);
    x.back();
    x.thing(8, 2, 2);
    x.reaper(8);
    due("told anew: grown", x.of(1, 3), 100);
    due("told anew: there", x.ofReaper(1, 1), 1);
    due("told anew: not cut", x.ofReaper(1, 2), 0);
    x.undo();
    due("told anew: there", x.ofReaper(1, 1), 1);
  }

  private static void about() {
    promise(38, "about");
    BaledShade x = six();
    for (int v : new int[] {-1, 13, Integer.MAX_VALUE, Integer.MIN_VALUE}) due("about(v)", x.about(v), -2);
    rule(x, "long 5;");
    x.sell(2);
    x.hour(12);
    x.need(1, 1);
    write(x, "ab");
    dueAbout(x, "at last", 2, 3, 2, 3, 1, 3, 30, 24012, 1, 0, 20, 1, 2);
  }
}
