import java.util.ArrayList;
import java.util.Arrays;
import java.util.List;

/** Terms II, sentence by sentence: the tape, TOKENS, CLAUSES, what SUMS are held to, FAULTS, laws, what is PLAYED. */
public final class EdgesOfTextsTest extends Helpers {
  /** One of each CLAUSE, its TOKENS apart. */
  private static final String[] EACH = {
    "long 1 ;", "grows 1 ;", "spoils 1 ;", "sells 1 ;", "may 1 < 2 ;", "thing 1 kind 1 of 1 ;", "reaper 1 ;", "barn 1 ;", "cut 1 by 1 to 1 ;",
    "last 1 to 1 ;", "use 1 from 1 ;", "move 1 to 1 ;", "sell 1 ;", "hour 1 ;", "long ( 1 + day ) * - height / part 5 of kind - 7 ;",
    "may not 1 <= 2 and ( 1 ) > 2 or 1 >= - 2 and part 1 of 2 = 3 or not not 1 # 2 ;"
  };

  public static void main(String[] args) {
    texts();
    tape();
    blanks();
    letters();
    digits();
    numbersForWords();
    signs();
    clauses();
    lawsOnce();
    forms();
    grammar();
    numbersTold();
    names();
    whatNamesAre();
    namesAsNow();
    fromTheLeft();
    division();
    heldTo();
    parts();
    asks();
    firstFault();
    leastFault();
    depth();
    tooMany();
    boundsOfLaws();
    without();
    mayAlone();
    theText();
    played();
    playedHours();
    close("EdgesOfTextsTest");
  }

  // ---- texts and the tape

  private static void texts() {
    heading("TEXTS 0 .. 3");
    BaledShade x = new BaledShade();
    for (int i = 0; i < 4; i++) {
      due("by(" + i + ") ahead of it", x.by(i), false);
      due("played(" + i + ") ahead of it", x.played(i), -2);
      due("one with a FAULT takes no number", tell(x, "x"), NONE);
      due("text " + i, tell(x, ""), i);
      due("TEXTS", x.about(8), i + 1);
    }
    write(x, "hour 1;");
    dueStill("a fifth (the tape stays)", x, x::text, NONE);
    due("the tape", x.about(12), 7);
    for (int i = 0; i < 4; i++) due("by(" + i + ")", x.by(i), true);
    due("by(4)", x.by(4), false);
    heading("a text with a FAULT leaves nothing to the next one");
    BaledShade after = new BaledShade();
    after.thing(10, 1, 0);
    for (int i = 0; i < 6; i++) {
      due("a FAULT at its end", tell(after, "hour 1;hour 1;long 1" + "+1".repeat(137)), NONE);
      due("its place", after.fault(1), 294);
    }
    due("the next one", tell(after, "hour 3;long 7" + "+1".repeat(137) + ";"), 0);
    due("its CLAUSES alone", after.played(0), NONE);
    due("its HOURS alone", after.about(3), 3);
    after.by(0);
    due("its law alone", after.of(0, 4), 144);
    tell(after, "hour 2;".repeat(24) + "x");
    due("without laws", tell(after, "hour 1;"), 1);
    after.by(1);
    due("long", after.of(0, 4), 15);
    due("played", after.played(1), NONE);
    due("HOUR", after.about(3), 4);
    heading("a text that is read leaves the tape empty");
    BaledShade y = new BaledShade();
    write(y, "hour 1;");
    due("a TEXT", y.text(), 0);
    due("the tape", y.about(12), 0);
    write(y, "hour 0;");
    due("a FAULT", y.text(), NONE);
    due("the tape", y.about(12), 0);
    due("an empty tape is a TEXT", y.text(), 1);
    due("its FAULT", y.fault(0), 0);
    due("its place", y.fault(1), NONE);
  }

  private static void tape() {
    heading("TEXTS of up to 300 bytes");
    BaledShade x = new BaledShade();
    for (int i = 1; i <= 15; i++) due("feed", x.feed(0x20202020, 0x20202020, 0x20202020, 0x20202020, 0x20202020), 20 * i);
    dueStill("more than 300", x, () -> x.feed(0, 0, 0, 0, 0), NONE);
    due("300 blanks", x.text(), 0);
    due("300 bytes, the last one a CLAUSE's end", tell(x, " ".repeat(293) + "hour 2;"), 1);
    due("it is all there", x.played(1), NONE);
    due("HOUR", x.about(3), 2);
    dueFault(" ".repeat(293) + "hour 22", 1, 300);
    dueFault(" ".repeat(299) + "!", 1, 299);
    due("299 bytes", tell(x, "hour 1;" + " ".repeat(292)), 2);
    fine("long 1" + "+1".repeat(146) + ";");
    fine("long " + "0".repeat(293) + "7;");
    dueFault("long " + "1".repeat(294) + ";", 2, 5);
    dueFault("a".repeat(300), 1, 0);
    dueFault(";".repeat(300), 1, 0);
    heading("feed: the highest of a first");
    for (int place = 0; place < 20; place++) {
      int[] words = {0x20202020, 0x20202020, 0x20202020, 0x20202020, 0x20202020};
      words[place / 4] ^= (0x20 ^ '!') << (24 - place % 4 * 8);
      BaledShade y = new BaledShade();
      y.feed(words[0], words[1], words[2], words[3], words[4]);
      y.text();
      due("the place of a byte", y.fault(1), place);
    }
    BaledShade z = new BaledShade();
    z.feed(0x20202080, 0, 0, 0, 0);
    z.text();
    due("bytes above 127 are no sign of the next", z.fault(1), 3);
    heading("feed: NONE, and none come, if there would be more than 300");
    BaledShade w = new BaledShade();
    write(w, "x".repeat(281));
    dueStill("at 281", w, () -> w.feed(0, 0, 0, 0, 0), NONE);
    w.end(280);
    due("at 280", w.feed(0, 0, 0, 0, 0), 300);
    heading("end: NONE, and nothing is done, if it has not so many, or n is below 0");
    for (int n : new int[] {-1, 301, Integer.MIN_VALUE, Integer.MAX_VALUE}) dueStill("end(" + n + ")", w, () -> w.end(n), NONE);
    due("as many as it has", w.end(300), 300);
    due("one less", w.end(299), 299);
    dueStill("it has not so many any more", w, () -> w.end(300), NONE);
    due("none", w.end(0), 0);
    due("of none none", w.end(0), 0);
    dueStill("of none one", w, () -> w.end(1), NONE);
    heading("end: the first n bytes alone");
    BaledShade v = new BaledShade();
    write(v, "hour 12;");
    v.end(6);
    v.feed(0x3b202020, 0x20202020, 0x20202020, 0x20202020, 0x20202020);
    due("behind the first six", v.about(12), 26);
    v.text();
    v.played(0);
    due("HOUR", v.about(3), 1);
  }

  // ---- TOKENS

  private static void blanks() {
    heading("TOKENS, blanks (32, 10) aside");
    for (String clause : EACH) {
      fine(clause);
      fine(clause.replace(' ', '\n'));
      fine("\n " + clause.replace(" ", " \n\n ") + " \n");
      fine(clause.replaceAll("([a-z]) ([0-9(-])", "$1$2").replaceAll("([0-9(;]) ", "$1"));
    }
    fine("");
    fine(" ");
    fine("\n");
    heading("no other byte is a blank");
    for (int c = 0; c < 256; c++) {
      boolean blank = c == 32 || c == 10;
      boolean sign = "<>=#+-*/();".indexOf(c) >= 0;
      boolean word = c >= '0' && c <= '9' || c >= 'a' && c <= 'z' || c >= 'A' && c <= 'Z';
      if (blank) fine("hour" + (char) c + "1;");
      else if (!sign && !word) dueFault("hour" + (char) c + "1;", 1, 4);
      if (!blank) dueFault("hour 1;" + (char) c, 1, 7);
    }
    heading("blanks part TOKENS");
    dueFault("ho ur 1;", 1, 0);
    dueFault("hour 1 1;", 1, 7);
    dueFault("may 1 < = 2;", 1, 8);
    dueFault("may 1 >\n= 2;", 1, 8);
  }

  private static void letters() {
    heading("letters a .. z, A .. Z one behind the other (one TOKEN)");
    for (char c : "azAZ".toCharArray()) {
      dueFault("hour" + c + " 1;", 1, 0);
      dueFault(c + "hour 1;", 1, 0);
      dueFault("hour 1" + c + ";", 1, 6);
      dueFault("long day" + c + ";", 1, 5);
    }
    for (char c : "@[`{".toCharArray()) {
      dueFault("hour" + c + "1;", 1, 4);
      dueFault("" + c, 1, 0);
    }
    dueFault("Hour 1;", 1, 0);
    dueFault("HOUR 1;", 1, 0);
    dueFault("hou 1;", 1, 0);
    dueFault("h 1;", 1, 0);
    dueFault("long spoilss;", 1, 5);
    dueFault("longgrows 1;", 1, 0);
    heading("letters and digits are TOKENS apart");
    fine("hour1;");
    fine("thing1kind1of1;");
    fine("may 1<2and 1<2or 1<2;");
    dueFault("may 1<2 and1x;", 1, 12);
  }

  private static void digits() {
    heading("digits likewise (NUMBERS, 0 .. 9999)");
    fine("long 0;");
    fine("long 9999;");
    fine("long 09999;");
    fine("long 0000000000000000000000000009999;");
    for (String n : new String[] {"10000", "010000", "65536", "100000000", "2147483648", "4294967296", "4294967297", "18446744073709551617"}) {
      dueFault("long " + n + ";", 2, 5);
      dueFault("long 1+" + n + ";", 2, 7);
      dueFault("hour " + n + ";", 2, 5);
    }
    for (char c : "/:".toCharArray()) dueFault("hour 1" + c + ";", 1, 6);
    dueFault("long 1.5;", 1, 6);
    dueFault("long 0x1;", 1, 6);
  }

  private static void numbersForWords() {
    heading("a NUMBER is no word, whichever it is");
    for (int n = 0; n <= 40; n++) {
      dueFault(n + " 1;", 1, 0);
      dueFault("thing 1 " + n + " 1 of 1;", 1, 8);
      dueFault("thing 1 kind 1 " + n + " 1;", 1, 15);
      dueFault("cut 1 " + n + " 1 to 1;", 1, 6);
      dueFault("cut 1 by 1 " + n + " 1;", 1, 11);
      dueFault("use 1 " + n + " 1;", 1, 6);
      dueFault("may 1<2 " + n + " 1<2;", 1, 8);
      dueFault("may " + n + " 1<2;", 1, n < 10 ? 6 : 7);
      dueFault("long part 1 " + n + " 1;", 1, 12);
      dueFault("long " + n + " 5 of 1;", 1, n < 10 ? 7 : 8);
      BaledShade x = new BaledShade();
      x.thing(1, 1, 1);
      rule(x, "long " + n + ";");
      due("it is a NUMBER", x.of(0, 4), n);
    }
  }

  private static void signs() {
    heading("<= >= < > = # + - * / ( ) ; (the longest)");
    for (String ask : new String[] {"<", "<=", ">", ">=", "=", "#"}) {
      fine("may 1" + ask + "2;");
      fine("may 1" + ask + "-2;");
      dueFault("may 1" + ask + ask + "2;", 1, 5 + ask.length());
    }
    dueFault("may 1=<2;", 1, 6);
    dueFault("may 1=>2;", 1, 6);
    dueFault("may 1<>2;", 1, 6);
    dueFault("may 1<=>2;", 1, 7);
    dueFault("may 1<==2;", 1, 7);
    dueFault("may 1!=2;", 1, 5);
    dueFault("may 1<=;", 1, 7);
    dueFault("may 1<", 1, 6);
    dueFault("may 1<=", 1, 7);
    for (char c : "!\"$%&',.?\\^_|~".toCharArray()) dueFault("long 1" + c + "1;", 1, 6);
  }

  // ---- CLAUSES

  private static void clauses() {
    heading("{CLAUSE}, 24 at most");
    for (int n : new int[] {0, 1, 2, 23, 24}) {
      BaledShade x = new BaledShade();
      due(n + " CLAUSES", tell(x, "hour 1;".repeat(n)), 0);
      due("all are PLAYED", x.played(0), NONE);
      due("HOURS", x.about(4) * 10 + x.about(3), n);
    }
    dueFault("hour 1;".repeat(25), 6, 168);
    dueFault("hour 1;".repeat(30), 6, 168);
    fine("long 1;grows 1;spoils 1;sells 1;may 1<2;" + "hour 1;".repeat(19));
    dueFault("long 1;grows 1;spoils 1;sells 1;may 1<2;" + "hour 1;".repeat(20), 6, 173);
  }

  private static void lawsOnce() {
    heading("long, grows, spoils, sells, may (each once)");
    String[] laws = {"long", "grows", "spoils", "sells", "may"};
    for (String one : laws) {
      for (String other : laws) {
        String first = one + " 1" + (one.equals("may") ? "<1;" : ";");
        String second = other + " 1" + (other.equals("may") ? "<1;" : ";");
        if (one.equals(other)) dueFault(first + "hour 1;" + second, 4, first.length() + 7);
        else fine(first + "hour 1;" + second);
      }
    }
    fine("thing 1 kind 1 of 1;thing 1 kind 1 of 1;reaper 1;reaper 1;barn 1;barn 1;hour 1;hour 1;sell 1;sell 1;");
    BaledShade x = new BaledShade();
    tell(x, "long 1;");
    due("in the next text it is the first", tell(x, "long 1;"), 1);
    due("a FAULT leaves nothing to the next", tell(x, "grows 1;x"), NONE);
    due("a FAULT leaves nothing to the next", tell(x, "grows 1;"), 2);
  }

  private static void forms() {
    heading("FAULTS: of the end at the length");
    for (String clause : EACH) {
      String[] tokens = clause.split(" ");
      String text = tokens[0];
      for (int i = 1; i < tokens.length; i++) {
        dueFault(text, 1, text.length());
        dueFault(text + " \n ", 1, text.length() + 3);
        text = text + " " + tokens[i];
      }
      fine(text);
    }
    heading("FAULTS: 1 it can't stand there, or is none");
    for (String clause : EACH) {
      String[] tokens = clause.split(" ");
      int place = 0;
      for (int i = 0; i < tokens.length; i++) {
        for (String wrong : new String[] {"!", "x", ")", "of", "long"}) {
          if (wrong.equals(")") && i > 0 && clause.contains("(")) continue;
          if (wrong.equals("of") && tokens[i].equals("of")) continue;
          if (wrong.equals("long") && i == 0) continue;
          tokens[i] = wrong;
          dueFault(String.join(" ", tokens), 1, place);
          tokens = clause.split(" ");
        }
        place += tokens[i].length() + 1;
      }
      dueFault(clause + " ;", 1, clause.length() + 1);
    }
  }

  private static void grammar() {
    heading("EITHER: BOTH {or BOTH}. BOTH: ASK {and ASK}. ASK: not ASK, or SUM .. SUM");
    String[] wrong = {"may or 1<2;", "may and 1<2;", "may 1<2 or or 1<2;", "may 1<2 and or 1<2;", "may 1<2 and and 1<2;", "may 1<2 or not;"};
    int[] places = {4, 4, 11, 12, 12, 14};
    for (int i = 0; i < wrong.length; i++) dueFault(wrong[i], 1, places[i]);
    dueFault("may (1<2);", 1, 6);
    dueFault("may (1<2) and 1<2;", 1, 6);
    dueFault("may not (1<2);", 1, 10);
    dueFault("may 1<2 1<2;", 1, 8);
    dueFault("may 1+not 1<2;", 1, 6);
    dueFault("may 1<not 1<2;", 1, 6);
    dueFault("may 1;", 1, 5);
    dueFault("may;", 1, 3);
    dueFault("long 1<2;", 1, 6);
    dueFault("long not 1;", 1, 5);
    dueFault("long 1 and 2;", 1, 7);
    heading("SUM: PRODUCT {+ or - PRODUCT}. PRODUCT: ONE {* or / ONE}. ONE: NUMBER, NAME, ( SUM ), - ONE, or part");
    dueFault("long 1+*2;", 1, 7);
    dueFault("long +1;", 1, 5);
    dueFault("long 1-+2;", 1, 7);
    dueFault("long */2;", 1, 5);
    dueFault("long 1 2;", 1, 7);
    dueFault("long 1 day;", 1, 7);
    dueFault("long (1;", 1, 7);
    dueFault("long (1));", 1, 8);
    dueFault("long ();", 1, 6);
    dueFault("long (1)(2);", 1, 8);
    dueFault("long -;", 1, 6);
    dueFault("long part -1 of 2;", 1, 10);
    dueFault("long part day of 2;", 1, 10);
    dueFault("long part 1 day;", 1, 12);
    dueFault("long part 1 of *2;", 1, 15);
    fine("long 1--2;");
    fine("long 1*-2/-3-----4;");
    fine("long part 1 of -(1);");
  }

  private static void numbersTold() {
    heading("2 a NUMBER that isn't one of those told");
    String[] forms = {"thing ? kind 0 of 0;", "thing 1 kind ? of 0;", "thing 1 kind 0 of ?;", "reaper ?;", "barn ?;", "cut ? by 0 to 0;",
        "cut 0 by ? to 0;", "cut 0 by 0 to ?;", "last ? to 0;", "last 0 to ?;", "use ? from 0;", "use 1 from ?;", "move ? to 0;", "move 0 to ?;",
        "sell ?;", "hour ?;", "long part ? of 1;", "long ?;", "may 1<?;"};
    int[] least = {1, 0, 0, 1, 1, 0, 0, 0, 0, 0, 1, 0, 0, 0, 0, 1, 0, 0, 0};
    int[] greatest = {99, 5, 4, 99, 999, 7, 3, 3, 3, 3, 999, 3, 11, 3, 11, 60, 100, 9999, 9999};
    for (int i = 0; i < forms.length; i++) {
      int place = forms[i].indexOf('?');
      fine(forms[i].replace("?", "" + least[i]));
      fine(forms[i].replace("?", "" + greatest[i]));
      fine(forms[i].replace("?", "00000" + greatest[i]));
      dueFault(forms[i].replace("?", "" + (greatest[i] + 1)), 2, place);
      dueFault(forms[i].replace("?", "" + (greatest[i] + 256)), 2, place);
      dueFault(forms[i].replace("?", "10000"), 2, place);
      dueFault(forms[i].replace("?", "" + (4294967296L + least[i])), 2, place);
      if (least[i] == 1) dueFault(forms[i].replace("?", "0"), 2, place);
      if (i < 17) dueFault(forms[i].replace("?", "-1"), 1, place);
    }
  }

  private static void names() {
    heading("5 a NAME that isn't of that CLAUSE (at it)");
    String[] names = {"day", "kind", "height", "grown", "hour", "cloud", "dark", "length", "here", "owner", "shadow"};
    String[] laws = {"long", "grows", "spoils", "sells", "may"};
    String[] of = {"day kind height grown hour cloud", "day kind height grown cloud", "day kind dark length here",
        "day kind hour dark length", "day kind height grown hour owner shadow"};
    for (int i = 0; i < laws.length; i++) {
      for (String name : names) {
        boolean has = (" " + of[i] + " ").contains(" " + name + " ");
        String end = laws[i].equals("may") ? "<1;" : ";";
        String ahead = laws[i] + " 1+(part 5 of -";
        dueFault(ahead + name + ")" + end, has ? 0 : 5, has ? NONE : ahead.length());
        dueFault(laws[i] + " " + name, has ? 1 : 5, laws[i].length() + (has ? 1 + name.length() : 1));
      }
      dueFault(laws[i] + " days;", 1, laws[i].length() + 1);
    }
    dueFault("may 1<cloud;", 5, 6);
    dueFault("long 1;may 1<day;grows shadow;", 5, 23);
  }

  /** The price of BALE 0 of a small one that was cut at once, at this HOUR of this DAY, nothing spoiled. */
  private static int price(String sells, int hours) {
    BaledShade x = small();
    x.cut(0, 0, 0);
    rule(x, "spoils 0;");
    hours(x, hours);
    rule(x, "sells " + sells + ";");
    return x.bale(0, 5);
  }

  private static void whatNamesAre() {
    heading("NAMES: day, hour, dark, length, kind at their ends");
    due("day 0", price("day", 9), 0);
    due("day 999", price("day", 9999), 999);
    due("hour 0", price("hour", 10), 0);
    due("hour 9", price("hour", 9), 9);
    due("dark 0", price("dark", 9), 0);
    due("dark 99", price("dark", 5000), 99);
    due("length", price("length", 0), 30);
    BaledShade kinds = new BaledShade();
    for (int k = 0; k < 6; k++) kinds.thing(k + 1, k, k % 5);
    kinds.thing(99, 0, 4);
    rule(kinds, "long kind*100+height;may owner=shadow-kind*100-height+4;");
    for (int k = 0; k < 6; k++) due("kind and height", kinds.of(k, 4), k * 100 + k + 1);
    due("height 99", kinds.of(6, 4), 99);
    for (int t = 0; t < 7; t++) due("owner 4", kinds.of(t, 6), bit(t == 4 || t == 6));
    heading("NAMES: grown, cloud, shadow at their ends");
    BaledShade x = small();
    rule(x, "long grown*9+cloud;grows cloud;may shadow=900 and grown=100 or shadow=9 and grown=0;");
    due("grown 100", x.of(0, 4), 900);
    due("shadow 900", x.of(0, 6), 1);
    x.by(NONE);
    hours(x, 30);
    x.cut(0, 0, 0);
    x.hour(10);
    x.by(0);
    due("cloud 9", x.of(0, 4), 9);
    due("cloud 9", x.of(0, 5), 9);
    due("grown 0", x.of(0, 6), 1);
    heading("here (how many BALES are in its BARN)");
    BaledShade h = lengths(1, 1, 1, 1, 1, 1, 1, 1, 1, 1, 1, 1);
    h.barn(99);
    rule(h, "spoils here;");
    due("all twelve", h.bale(5, 4), 12);
    h.move(5, 1);
    due("it alone", h.bale(5, 4), 1);
    due("eleven", h.bale(4, 4), 11);
    h.sell(0);
    due("ten", h.bale(4, 4), 10);
  }

  /** KIND 3, OWNER 2, at HOUR 7 of DAY 13 (CLOUD 4); BALE 0 is DARK 3, BALE 1 DARK 0. */
  private static BaledShade thirteenth() {
    BaledShade x = new BaledShade();
    x.thing(40, 3, 2);
    x.reaper(20);
    x.reaper(15);
    x.barn(99);
    hours(x, 100);
    x.cut(0, 0, 0);
    x.hour(37);
    x.cut(0, 1, 0);
    return x;
  }

  private static void namesAsNow() {
    heading("NAMES are as now, each law alone");
    int grown = thirteenth().of(0, 3);
    due("GROWN", grown > 0 && grown < 100, true);
    int shadow = 40 * grown * 3 / 200;
    String[][] thing = {{"day", "13"}, {"kind", "3"}, {"height", "40"}, {"grown", "" + grown}, {"hour", "7"}, {"cloud", "4"}};
    for (String[] n : thing) {
      BaledShade x = thirteenth();
      rule(x, "long " + n[0] + ";");
      due("long " + n[0], x.of(0, 4), Integer.parseInt(n[1]));
      if (n[0].equals("hour")) continue;
      BaledShade y = thirteenth();
      rule(y, "grows " + n[0] + ";");
      due("grows " + n[0], y.of(0, 5), Integer.parseInt(n[1]));
    }
    String[][] may = {{"day", "13"}, {"kind", "3"}, {"height", "40"}, {"grown", "" + grown}, {"hour", "7"}, {"owner", "2"}, {"shadow", "" + shadow}};
    for (String[] n : may) {
      BaledShade x = thirteenth();
      rule(x, "may " + n[0] + "=" + n[1] + ";");
      due("may " + n[0] + "=" + n[1], x.of(0, 6), 1);
      BaledShade y = thirteenth();
      rule(y, "may " + n[0] + "#" + n[1] + ";");
      due("may " + n[0] + "#" + n[1], y.of(0, 6), 0);
      due("cut by " + n[0] + "#" + n[1], y.cut(0, 0, 0), NONE);
    }
    String[][] bale = {{"day", "13"}, {"kind", "3"}, {"dark", "3"}, {"length", "17"}, {"hour", "7"}, {"here", "2"}};
    for (String[] n : bale) {
      BaledShade x = thirteenth();
      due("BALE 0", x.bale(0, 2) * 100 + x.bale(0, 1), 317);
      if (!n[0].equals("here")) {
        rule(x, "sells " + n[0] + ";");
        due("sells " + n[0], x.bale(0, 5), Integer.parseInt(n[1]));
        due("SOLD by " + n[0], x.sell(0), Integer.parseInt(n[1]));
      }
      if (n[0].equals("hour")) continue;
      BaledShade y = thirteenth();
      rule(y, "spoils " + n[0] + ";");
      due("spoils " + n[0], y.bale(0, 4), Integer.parseInt(n[1]));
      y.hour(3);
      int[] spoiled = {14, 3, 3, 17, 7, 2};
      int by = spoiled[Arrays.asList("day", "kind", "dark", "length", "hour", "here").indexOf(n[0])];
      due("spoiled by " + n[0], y.bale(0, 1), 17 - by > 0 ? 17 - by : NONE);
    }
  }

  // ---- SUMS

  /** What may says of it. */
  private static void dueMay(String either, boolean so) {
    BaledShade x = new BaledShade();
    x.thing(10, 3, 2);
    rule(x, "may " + either + ";");
    due(either, x.of(0, 6), bit(so));
  }

  private static void dueSum(String sum, int want) {
    dueMay(sum + "=" + (want < 0 ? "0-" + -want : "" + want), true);
    dueMay(sum + "<" + (want < 0 ? "0-" + -want : "" + want), false);
    dueMay(sum + ">" + (want < 0 ? "0-" + -want : "" + want), false);
  }

  private static void fromTheLeft() {
    heading("From the left");
    dueSum("10-3-2", 5);
    dueSum("10-(3-2)", 9);
    dueSum("100/5/4", 5);
    dueSum("100/(20/4)", 20);
    dueSum("7/2*2", 6);
    dueSum("7*2/2", 7);
    dueSum("2+3*4-6/2", 11);
    dueSum("-2*3", -6);
    dueSum("5-2*-3", 11);
    dueSum("-(2-5)*4", 12);
    dueSum("---4", -4);
  }

  private static void division() {
    heading("/ cuts towards 0, by 0 it is 0");
    dueSum("7/2", 3);
    dueSum("-7/2", -3);
    dueSum("7/-2", -3);
    dueSum("-7/-2", 3);
    dueSum("1/2", 0);
    dueSum("-1/2", 0);
    dueSum("(0-7)/7", -1);
    dueSum("7/0", 0);
    dueSum("-7/0", 0);
    dueSum("0/0", 0);
    dueSum("7/(3-3)+5", 5);
    dueSum("7/0*9", 0);
    dueSum("7-7/day", 7);
    dueSum("9999/9999", 1);
    dueSum("9998/9999", 0);
  }

  private static void heldTo() {
    heading("what is above 1000000 (below the same less) is that, at each step");
    dueMay("1000*1000-1=1000*999+999", true);
    dueMay("1000*1000+1=1000*1000", true);
    dueMay("1000*999+999+1=1000*1000", true);
    dueMay("1000*999+999<1000*1000", true);
    dueMay("1000*1001=1000*1000", true);
    dueMay("1000*1000+9999-9999=1000*1000-9999", true);
    dueMay("9999*9999/100=9999+1", true);
    dueMay("0-1000*1000-1=0-1000*1000", true);
    dueMay("0-1000*999-999>0-1000*1000", true);
    dueMay("0-1000*999-999-1=0-1000*1000", true);
    dueMay("-1000*1001=0-1000*1000", true);
    dueMay("-9999*9999+1000*1000=0", true);
    dueMay("0-9999*9999-9999+1=1-1000*1000", true);
    dueMay("-(0-9999*9999)=1000*1000", true);
    dueMay("-(9999*9999)-1=-(1000*1000)", true);
    heading("what is above 1000000: no wrap-around");
    dueMay("1000*1000*(1000*1000)=1000*1000", true);
    dueMay("-1000*1000*(1000*1000)=-1000*1000", true);
    dueMay("(0-1000*1000)*(0-1000*1000)=1000*1000", true);
    dueMay("9999*9999*9999*9999*9999*9999=1000*1000", true);
    dueMay("9999*9999*9999*-9999*9999*9999*9999=-1000*1000", true);
    dueMay("2048*2048*2048*2048>0", true);
    dueMay("9999*" + "9999*".repeat(50) + "9999=1000*1000", true);
    dueMay("0-9999*9999" + "-9999*9999".repeat(20) + "=0-1000*1000", true);
  }

  private static void parts() {
    heading("part NUMBER of ONE (NUMBER of 100 of it, 0 .. 100: times that, by 100, cut)");
    dueSum("part 0 of 9999", 0);
    dueSum("part 100 of 9999", 9999);
    dueSum("part 100 of -9999", -9999);
    dueSum("part 50 of 7", 3);
    dueSum("part 50 of -7", -3);
    dueSum("part 99 of 1", 0);
    dueSum("part 99 of -1", 0);
    dueSum("part 1 of 100", 1);
    dueSum("part 1 of 99", 0);
    dueSum("part 50 of 3*4", 4);
    dueSum("part 50 of (3*4)", 6);
    dueSum("part 50 of -3", -1);
    dueSum("-part 50 of 3", -1);
    dueSum("part 50 of part 50 of 10", 2);
    dueMay("part 100 of (9999*9999)=1000*1000", true);
    dueMay("part 99 of (9999*9999)=990*1000", true);
    dueMay("part 99 of (0-9999*9999)=0-990*1000", true);
  }

  private static void asks() {
    heading("< <= > >= = # (unlike), at, below and above");
    String[] signs = {"<", "<=", ">", ">=", "=", "#"};
    int[][] want = {{1, 0, 0}, {1, 1, 0}, {0, 0, 1}, {0, 1, 1}, {0, 1, 0}, {1, 0, 1}};
    for (int i = 0; i < signs.length; i++) {
      for (int k = -1; k <= 1; k++) {
        dueMay(k + 5 + signs[i] + 5, want[i][k + 1] == 1);
        dueMay(k + signs[i] + 0, want[i][k + 1] == 1);
        dueMay(k + "*1000*1000" + signs[i] + "0*1000", want[i][k + 1] == 1);
        dueMay("not " + (k + 5) + signs[i] + 5, want[i][k + 1] == 0);
        dueMay("not not " + (k + 5) + signs[i] + 5, want[i][k + 1] == 1);
      }
    }
    heading("and binds closer than or; or and and look at both sides always");
    for (int bits = 0; bits < 16; bits++) {
      boolean[] so = {(bits & 1) == 1, (bits & 2) == 2, (bits & 4) == 4, (bits & 8) == 8};
      String[] s = new String[4];
      for (int i = 0; i < 4; i++) s[i] = so[i] ? "1=1" : "1/0=1";
      dueMay(s[0] + " or " + s[1] + " and " + s[2] + " or " + s[3], so[0] || so[1] && so[2] || so[3]);
      dueMay(s[0] + " and " + s[1] + " or " + s[2] + " and " + s[3], so[0] && so[1] || so[2] && so[3]);
      dueMay(s[0] + " and not " + s[1] + " or not not " + s[2] + " and " + s[3], so[0] && !so[1] || so[2] && so[3]);
      dueMay(s[0] + " or " + s[1] + " or " + s[2] + " or " + s[3], bits != 0);
      dueMay(s[0] + " and " + s[1] + " and " + s[2] + " and " + s[3], bits == 15);
    }
  }

  // ---- FAULTS

  private static void firstFault() {
    heading("FAULTS, the first as TOKENS are come to, at the TOKEN's first byte");
    dueFault("x x", 1, 0);
    dueFault("  hour 61;hour 0;x", 2, 7);
    dueFault("hour 1;hour 61;x", 2, 12);
    dueFault("hour 1;x hour 61;", 1, 7);
    dueFault("long 10000 x", 2, 5);
    dueFault("long x 10000;", 1, 5);
    dueFault("long dark+10000;", 5, 5);
    dueFault("long 10000+dark;", 2, 5);
    dueFault("long (((((((((dark", 3, 13);
    dueFault("long dark(((((((((", 5, 5);
    dueFault("long 1;long dark;", 4, 7);
    dueFault("long dark;long 1;", 5, 5);
    dueFault("thing 100 kind 6 of 5;", 2, 6);
    dueFault("thing 99 kind 6 of 5;", 2, 14);
    dueFault("thing 99 of 5;", 1, 9);
    dueFault("thing 100 of 5;", 2, 6);
    heading("fault: of the latest text that was read");
    BaledShade x = new BaledShade();
    due("ahead of any: 0", x.fault(0), NONE);
    due("ahead of any: 1", x.fault(1), NONE);
    tell(x, "  x");
    due("a FAULT", x.fault(0) * 10 + x.fault(1), 12);
    write(x, "   hour 0;");
    due("it isn't read yet", x.fault(0) * 10 + x.fault(1), 12);
    x.text();
    due("the next FAULT", x.fault(0) * 10 + x.fault(1), 28);
    tell(x, "");
    due("without", x.fault(0), 0);
    due("without", x.fault(1), NONE);
    for (int i = 0; i < 3; i++) tell(x, "");
    tell(x, "x");
    due("a fifth isn't read", x.fault(0), 0);
    for (int what : new int[] {-1, 2, Integer.MIN_VALUE, Integer.MAX_VALUE}) dueStill("fault(" + what + ")", x, () -> x.fault(what), NONE);
  }

  private static void leastFault() {
    heading("FAULTS: of one the least");
    dueFault("hour 1;".repeat(24) + "x", 1, 168);
    dueFault("hour 1;".repeat(24) + "10000", 1, 168);
    dueFault("long 1;" + "hour 1;".repeat(23) + "long 1;", 4, 168);
    dueFault("long 1;" + "hour 1;".repeat(23) + "grows 1;", 6, 168);
    dueFault("hour 1 10000;", 1, 7);
    dueFault("long 1 10000;", 1, 7);
    dueFault("long 1 dark;", 1, 7);
    dueFault("hour dark;", 1, 5);
    dueFault("long ((((((((1(", 1, 14);
    dueFault("long ((((((((1 part", 1, 15);
    dueFault("may not not not not not not not not 1 not", 1, 38);
    dueFault("long not 1;", 1, 5);
    dueFault("long ((((((((not", 1, 13);
    dueFault("long long 1;", 1, 5);
    dueFault("long 1 long 1;", 1, 7);
  }

  private static void depth() {
    heading("3 the 9th of (, not, part and - (of one ONE) that are open around one another (at it)");
    String[] openers = {"(", "part 5 of ", "-"};
    for (String eight : openers) {
      for (String ninth : openers) {
        String ahead = "long " + eight.repeat(8);
        String closed = (eight.equals("(") ? ")" : "").repeat(8);
        fine(ahead + "1" + closed + ";");
        dueFault(ahead + ninth + "1" + (ninth.equals("(") ? ")" : "") + closed + ";", 3, ahead.length());
        fine("long " + eight.repeat(7) + ninth + "1" + (ninth.equals("(") ? ")" : "") + closed.substring(0, closed.length() / 8 * 7) + ";");
      }
      String nots = "may " + "not ".repeat(8);
      fine(nots + "1<1;");
      dueFault(nots + eight + "1<1;", 3, nots.length());
      dueFault(nots + "1<" + eight + "1;", 3, nots.length() + 2);
      fine("may " + "not ".repeat(7) + "-1<-1;");
      dueFault("may " + "not ".repeat(7) + "--1<-1;", 3, 33);
    }
    dueFault("may " + "not ".repeat(9) + "1<1;", 3, 36);
    dueFault("long " + "(".repeat(20) + "1;", 3, 13);
    heading("3: those that are closed don't count");
    fine("long (((((((1)))))))+(((((((1)))))))+((((((((1))))))));");
    fine("long (1)+(1)+(1)+(1)+(1)+(1)+(1)+(1)+(1)+(1);");
    fine("long -1-1-1-1-1-1-1-1-1-1-1;");
    fine("long -1*-1*-1*-1*-1*-1*-1*-1*-1*-1;");
    fine("long part 1 of 1+part 1 of 1+part 1 of 1+part 1 of 1+part 1 of 1+part 1 of 1+part 1 of 1+part 1 of 1+part 1 of 1;");
    fine("may not 1<1 and not 1<1 and not 1<1 or not 1<1 or not 1<1 and not 1<1 or not 1<1 and not 1<1 or not 1<1 and not 1<1;");
    fine("may not not not not not not not not 1<1 and ((((((((1))))))))<--------1;");
    fine("long ((((((((1-1-1-1))))))))-((((((((1))))))));");
    fine("long (((((((-1+-1*-1)))))));");
    dueFault("long (((((((-1+-1*-(1))))))));", 3, 19);
    dueFault("long ((((((((1+-1))))))));", 3, 15);
    heading("3: what such a SUM is");
    BaledShade x = with(1, 1, 1);
    rule(x, "long 9-(9-(9-(9-(9-(9-(9-(9-(1))))))));");
    due("eight deep", x.of(0, 4), 1);
    rule(x, "long 900-(-1*(-1*(-1*(-1*(1*2+3*4)))));");
    due("eight deep", x.of(0, 4), 886);
    rule(x, "may not not not not not not not not 1<2 and not not not not not not not 2<1;");
    due("eight deep", x.of(0, 6), 1);
  }

  private static void tooMany() {
    heading("6 the 25th CLAUSE (at its first TOKEN)");
    for (String clause : EACH) dueFault("hour 1;".repeat(24) + " \n " + clause, 6, 171);
    dueFault("hour 1;".repeat(24) + "hour", 6, 168);
    dueFault("hour 1;".repeat(24) + "hour 61", 6, 168);
    fine("hour 1;".repeat(24) + " \n ");
    dueFault("hour 1;".repeat(23) + "hour 61;hour 1;", 2, 166);
  }

  // ---- laws

  private static void boundsOfLaws() {
    String[] laws = {"long ", "grows ", "spoils ", "sells "};
    int[] greatest = {999, 100, 999, 9999};
    for (int i = 0; i < 4; i++) {
      heading(laws[i].trim() + ": 0 at least, " + greatest[i] + " at most");
      for (int more = -1; more <= 1; more++) {
        BaledShade y = small();
        y.cut(0, 0, 0);
        rule(y, laws[i] + (greatest[i] - 1) + "+" + (more + 1) + ";");
        due("at the greatest, " + more, lawOf(y, i), Math.min(greatest[i], greatest[i] + more));
        y.by(tell(y, laws[i] + "1-" + (more + 1) + ";"));
        due("at the least, " + more, lawOf(y, i), Math.max(0, -more));
        y.by(tell(y, laws[i] + "9999*9999;"));
        due("far above", lawOf(y, i), greatest[i]);
        y.by(tell(y, laws[i] + "-9999*9999;"));
        due("far below", lawOf(y, i), 0);
      }
    }
  }

  private static int lawOf(BaledShade x, int law) { return law < 2 ? x.of(0, 4 + law) : x.bale(0, 2 + law); }

  private static void without() {
    heading("without: long by HEIGHT, grows 10, spoils 1, sells LENGTH, may always");
    String[] laws = {"long 7;", "grows 7;", "spoils 7;", "sells 7;", "may 1<1;"};
    for (int i = -1; i < laws.length; i++) {
      BaledShade x = small();
      x.cut(0, 0, 0);
      x.thing(20, 2, 2);
      if (i >= 0) rule(x, laws[i]);
      due("long with " + i, x.of(1, 4), i == 0 ? 7 : 60);
      due("grows with " + i, x.of(1, 5), i == 1 ? 7 : 10);
      due("spoils with " + i, x.bale(0, 4), i == 2 ? 7 : 1);
      due("sells with " + i, x.bale(0, 5), i == 3 ? 7 : 30);
      due("may with " + i, x.of(1, 6), i == 4 ? 0 : 1);
    }
  }

  private static void mayAlone() {
    heading("whether it may be CUT now by may (1, 0)");
    BaledShade x = new BaledShade();
    x.thing(1, 0, 4);
    due("without REAPERS and BARNS", x.of(0, 6), 1);
    x.hour(5);
    due("a SHADOW of 0", x.of(0, 4), 0);
    due("without may always", x.of(0, 6), 1);
    rule(x, "may shadow>0;");
    due("by may", x.of(0, 6), 0);
    x.hour(1);
    due("by may an HOUR behind it", x.of(0, 6), 1);
    rule(x, "may shadow=0;long 0;");
    due("by may, though it can't be CUT", x.of(0, 6), 1);
    x.reaper(1);
    x.barn(1);
    dueStill("it can't", x, () -> x.cut(0, 0, 0), NONE);
  }

  private static void theText() {
    heading("THE TEXT (told; at first none) rules");
    BaledShade x = small();
    due("at first", x.about(9), NONE);
    tell(x, "long 5;");
    due("telling isn't ruling", x.of(0, 4), 30);
    dueStill("by one that isn't told", x, () -> bit(x.by(1)), 0);
    due("by(0)", x.by(0), true);
    due("of(0, 4)", x.of(0, 4), 5);
    dueStill("by(1)", x, () -> bit(x.by(1)), 0);
    for (int v : new int[] {-2, 4, Integer.MIN_VALUE, Integer.MAX_VALUE}) dueStill("by(" + v + ")", x, () -> bit(x.by(v)), 0);
    due("one with a FAULT", tell(x, "long 6;x"), NONE);
    due("of(0, 4)", x.of(0, 4), 5);
    due("by(NONE)", x.by(NONE), true);
    due("of(0, 4)", x.of(0, 4), 30);
  }

  // ---- PLAYED

  private static void played() {
    heading("PLAYED by a TEXT: its CLAUSES but laws, in their order, as by hand");
    BaledShade x = new BaledShade();
    tell(x, "");
    dueStill("no CLAUSE", x, () -> x.played(0), NONE);
    tell(x, "long 1;grows 2;spoils 3;sells 4;may 1<2;");
    dueStill("laws alone", x, () -> x.played(1), NONE);
    for (int v : new int[] {-2, -1, 2, 4, Integer.MIN_VALUE, Integer.MAX_VALUE}) dueStill("played(" + v + ")", x, () -> x.played(v), -2);
    heading("one that can't be ends it: its number among all CLAUSES (from 0); what was done stays");
    for (int n = 0; n < 24; n++) {
      BaledShade y = new BaledShade();
      tell(y, "hour 1;".repeat(n) + "sell 0;" + "hour 1;".repeat(23 - n));
      due("the one that can't be", y.played(0), n);
      due("HOURS", y.about(4) * 10 + y.about(3), n);
      due("STEPS", y.about(10), n);
    }
    BaledShade z = new BaledShade();
    tell(z, "long 1;hour 1;may 1<2;sell 0;hour 1;");
    due("laws are counted", z.played(0), 3);
    heading("PLAYED: each CLAUSE that can't be");
    String ahead = "thing 10 kind 1 of 0;reaper 30;barn 30;cut 0 by 0 to 0;";
    String[] cant = {"cut 0 by 0 to 0;", "cut 1 by 0 to 0;", "last 0 to 0;", "last 1 to 0;", "use 31 from 0;", "use 1 from 1;", "move 0 to 0;",
        "move 0 to 1;", "move 1 to 0;", "sell 1;"};
    for (String c : cant) {
      BaledShade y = new BaledShade();
      List<String> clauses = new ArrayList<>(List.of(ahead.split("(?<=;)")));
      tell(y, ahead + c + "hour 5;");
      due("played " + c, y.played(0), clauses.size());
      due("HOUR", y.about(3), 0);
      due("the BALE", y.bale(0, 1), 30);
      due("STEPS", y.about(10), 1);
    }
    for (String c : new String[] {"thing 1 kind 1 of 1;", "reaper 1;", "barn 1;"}) {
      BaledShade y = new BaledShade();
      int most = c.startsWith("thing") ? 8 : 4;
      tell(y, c.repeat(most + 1));
      due("played " + c, y.played(0), most);
      due("how many there are", y.about(0) + y.about(1) + y.about(2), most);
    }
  }

  private static void playedHours() {
    heading("PLAYED: of so many HOURS those that can are done");
    BaledShade x = new BaledShade();
    hours(x, 9990);
    tell(x, "barn 9;hour 9;barn 9;");
    tell(x, "barn 9;hour 10;barn 9;");
    tell(x, "hour 60;");
    due("as many as can pass", x.played(0), NONE);
    due("HOUR", x.about(3), 9);
    due("BARNS", x.about(2), 2);
    for (int i = 0; i < 9; i++) x.undo();
    due("one more", x.played(1), 1);
    due("HOUR", x.about(3), 9);
    due("DAY", x.about(4), 999);
    due("BARNS", x.about(2), 3);
    int steps = x.about(10);
    due("none can pass", x.played(2), 0);
    due("STEPS", x.about(10), steps);
    heading("PLAYED: an HOUR is a STEP each");
    BaledShade y = new BaledShade();
    tell(y, "hour 60;hour 1;");
    due("played(0)", y.played(0), NONE);
    due("STEPS", y.about(10), 30);
    for (int i = 0; i < 30; i++) y.undo();
    due("HOURS", y.about(4) * 10 + y.about(3), 31);
  }
}
