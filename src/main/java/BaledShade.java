/** Baled shade: shadows cut, baled and stored; what each call must answer is told by ../shared/DOC.md. */
public final class BaledShade {
  public static final int NONE = -1;

  /** What a call answers for others where NONE has a meaning of its own. */
  private static final int OTHERS = -2;

  private static final int THINGS = 8;
  private static final int REAPERS = 4;
  private static final int BARNS = 4;
  private static final int BALES = 12;
  private static final int KINDS = 6;
  private static final int OWNERS = 4;
  private static final int COMMONS = 4;
  private static final int LAST_KIND = 5;
  private static final int HOURS = 10;
  private static final int LAST_DAY = 999;
  private static final int MOST_HOURS = 60;
  private static final int HAIL_CLOUD = 8;
  private static final int MOST_DARK = 99;
  private static final int TAPE = 300;
  private static final int TEXTS = 4;
  private static final int CLAUSES = 24;
  private static final int STEPS = 30;
  private static final int NEEDS = 8;

  private final Told told;
  private final Laws laws;
  private final World now;
  /** Where HOURS to come pass: what is there counts for one call alone. */
  private final World guess;
  private final Steps steps = new Steps();
  private final int[] needDay = new int[NEEDS];
  private final int[] needFeet = new int[NEEDS];
  private int needCount = 0;
  private final Tape tape;
  private final Reader reader;
  /** THE TEXT where there is none. */
  private final Text plain;
  private final Text[] texts = new Text[TEXTS];
  private int textCount = 0;
  private int rule = NONE;
  private final Image kept = new Image();
  private final Mowing mowing;
  private final Harvest harvest;
  private final Packing packing;

  public BaledShade() {
    Told newTold = new Told();
    Text newPlain = new Text();
    Laws newLaws = new Laws(newTold, newPlain);
    World newNow = new World(newTold, newLaws);
    World newGuess = new World(newTold, newLaws);
    Tape newTape = new Tape();
    told = newTold;
    plain = newPlain;
    laws = newLaws;
    now = newNow;
    guess = newGuess;
    tape = newTape;
    reader = new Reader(newTape, newPlain);
    mowing = new Mowing(newGuess);
    harvest = new Harvest(newLaws);
    packing = new Packing(newNow);
    for (int i = 0; i < TEXTS; i++) {
      texts[i] = new Text();
    }
  }

  private static boolean within(int value, int least, int greatest) {
    return value >= least && value <= greatest;
  }

  public int thing(int height, int kind, int owner) {
    if (!within(height, 1, 99) || !within(kind, 0, KINDS - 1) || !within(owner, 0, COMMONS)) {
      return NONE;
    }
    return told.addThing(height, kind, owner);
  }

  public int reaper(int reach) {
    return within(reach, 1, 99) ? told.addReaper(reach) : NONE;
  }

  public int barn(int room) {
    return within(room, 1, 999) ? told.addBarn(room) : NONE;
  }

  public int cut(int thing, int reaper, int barn) {
    steps.note(now.cells);
    int bale = now.cutOff(thing, reaper, barn);
    if (bale != NONE) {
      steps.count();
    }
    return bale;
  }

  public int last(int reaper, int barn) {
    steps.note(now.cells);
    int bale = now.sendOff(reaper, barn);
    if (bale != NONE) {
      steps.count();
    }
    return bale;
  }

  public int use(int feet, int barn) {
    if (!within(feet, 1, 999) || !told.hasBarn(barn)) {
      return NONE;
    }
    steps.note(now.cells);
    if (!now.takeFeet(feet, barn)) {
      return NONE;
    }
    steps.count();
    return now.feetIn(barn);
  }

  public boolean move(int bale, int barn) {
    steps.note(now.cells);
    boolean moved = now.carry(bale, barn);
    if (moved) {
      steps.count();
    }
    return moved;
  }

  public int sell(int bale) {
    steps.note(now.cells);
    int pence = now.sellOff(bale);
    if (pence != NONE) {
      steps.count();
    }
    return pence;
  }

  public int hour(int n) {
    if (!within(n, 1, MOST_HOURS) || n > now.hoursLeft()) {
      return NONE;
    }
    passHours(n);
    return now.cells[World.HOUR];
  }

  /** As many of n HOURS as can pass, each a STEP of its own: how many did. */
  private int passHours(int n) {
    int passed = 0;
    for (int i = 0; i < n; i++) {
      steps.note(now.cells);
      if (!now.passHour()) {
        break;
      }
      steps.count();
      passed++;
    }
    return passed;
  }

  public int decades(int seed, int n) {
    boolean bare = told.things == 0 || told.reapers == 0 || told.barns == 0;
    if (!within(seed, 0, 9999) || !within(n, 1, 30) || bare) {
      return NONE;
    }
    steps.note(now.cells);
    now.cells[World.X] = seed * 2 + 83;
    for (int i = 0; i < n; i++) {
      now.passDecade();
    }
    steps.count();
    return now.cells[World.PENCE];
  }

  public int feed(int a, int b, int c, int d, int e) {
    if (!tape.hasRoom(20)) {
      return NONE;
    }
    tape.add(a);
    tape.add(b);
    tape.add(c);
    tape.add(d);
    tape.add(e);
    return tape.size;
  }

  public int end(int n) {
    if (!within(n, 0, tape.size)) {
      return NONE;
    }
    tape.size = n;
    return n;
  }

  public int text() {
    if (textCount >= TEXTS) {
      return NONE;
    }
    boolean fine = reader.read(textAt(textCount));
    tape.size = 0;
    if (!fine) {
      return NONE;
    }
    textCount++;
    return textCount - 1;
  }

  public int fault(int what) {
    if (!reader.hasRead) {
      return NONE;
    }
    switch (what) {
      case 0: return reader.wrong;
      case 1: return reader.place;
      default: return NONE;
    }
  }

  public boolean by(int text) {
    if (!within(text, NONE, textCount - 1)) {
      return false;
    }
    setRule(text);
    return true;
  }

  private void setRule(int text) {
    rule = text;
    laws.ruling = textAt(text);
  }

  private Text textAt(int i) {
    Text text = i >= 0 && i < TEXTS ? texts[i] : plain;
    return text == null ? plain : text;
  }

  public int played(int text) {
    if (!within(text, 0, textCount - 1)) {
      return OTHERS;
    }
    int[] rows = textAt(text).clauses;
    int clauses = textAt(text).clauseCount;
    for (int i = 0; i < clauses && i < CLAUSES; i++) {
      int first = i * Text.WIDTH;
      boolean inside = first + Text.WIDTH <= rows.length;
      if (inside && !perform(rows[first], rows[first + 1], rows[first + 2], rows[first + 3])) {
        return i;
      }
    }
    return NONE;
  }

  /** A CLAUSE as by hand: whether it could be; laws always can. */
  private boolean perform(int word, int a, int b, int c) {
    switch (word) {
      case Tape.THING: return thing(a, b, c) != NONE;
      case Tape.REAPER: return reaper(a) != NONE;
      case Tape.BARN: return barn(a) != NONE;
      case Tape.CUT: return cut(a, b, c) != NONE;
      case Tape.LAST: return last(a, b) != NONE;
      case Tape.USE: return use(a, b) != NONE;
      case Tape.MOVE: return move(a, b);
      case Tape.SELL: return sell(a) != NONE;
      case Tape.HOUR: return passHours(a) == a;
      default: return true;
    }
  }

  public int undo() {
    return steps.takeBack(now.cells) ? steps.size : NONE;
  }

  public int of(int thing, int what) {
    if (!told.hasThing(thing)) {
      return NONE;
    }
    switch (what) {
      case 0: return told.height[thing];
      case 1: return told.kind[thing];
      case 2: return told.owner[thing];
      case 3: return now.cells[World.GROWN + thing];
      case 4: return now.shadowOf(thing);
      case 5: return now.growsOf(thing);
      case 6: return now.mayCut(thing, now.shadowOf(thing)) ? 1 : 0;
      default: return NONE;
    }
  }

  public int ofReaper(int reaper, int what) {
    if (!told.hasReaper(reaper)) {
      return NONE;
    }
    switch (what) {
      case 0: return told.reach[reaper];
      case 1: return now.cells[World.THERE + reaper];
      case 2: return now.cells[World.HAS_CUT + reaper];
      default: return NONE;
    }
  }

  public int bale(int bale, int what) {
    if (!now.hasBale(bale)) {
      return NONE;
    }
    switch (what) {
      case 0: return now.cells[World.KIND + bale];
      case 1: return now.cells[World.LENGTH + bale];
      case 2: return now.cells[World.DARK + bale];
      case 3: return now.cells[World.BARN + bale];
      case 4: return now.spoilsOf(bale);
      case 5: return now.sellsOf(bale);
      default: return NONE;
    }
  }

  public int ofBarn(int barn, int what) {
    if (!told.hasBarn(barn)) {
      return NONE;
    }
    switch (what) {
      case 0: return told.room[barn];
      case 1: return now.feetIn(barn);
      default: return NONE;
    }
  }

  /** What is as now goes into the guess, n HOURS pass there, those that can. */
  private void foresee(int n) {
    guess.takeFrom(now.cells);
    for (int i = 0; i < n; i++) {
      if (!guess.passHour()) {
        break;
      }
    }
  }

  public int foretold(int n, int thing) {
    if (!within(n, 1, MOST_HOURS) || !told.hasThing(thing)) {
      return NONE;
    }
    foresee(n);
    return guess.cells[World.GROWN + thing];
  }

  public int stored(int n, int barn) {
    if (!within(n, 1, MOST_HOURS) || !told.hasBarn(barn)) {
      return NONE;
    }
    foresee(n);
    return guess.feetIn(barn);
  }

  public int most(int reaper, int barn, int n, int i) {
    boolean none = !told.hasReaper(reaper) || !told.hasBarn(barn);
    if (none || !within(n, 1, Mowing.HOURS_AHEAD) || !within(i, NONE, n - 1)) {
      return NONE;
    }
    guess.takeFrom(now.cells);
    mowing.start(reaper, barn, n);
    return i == NONE ? mowing.best : mowing.thingAt(i);
  }

  public int need(int day, int feet) {
    if (day == NONE) {
      needCount = 0;
      return 0;
    }
    if (!within(day, 0, LAST_DAY) || !within(feet, 1, 999) || needCount >= NEEDS) {
      return OTHERS;
    }
    needDay[needCount] = day;
    needFeet[needCount] = feet;
    needCount++;
    return needCount;
  }

  public int unmet(int n) {
    if (!within(n, 1, 20)) {
      return NONE;
    }
    guess.takeFrom(now.cells);
    for (int i = 0; i < n * HOURS; i++) {
      if (!guess.passHour()) {
        break;
      }
      int first = guess.cells[World.HOUR] == 0 ? firstUnmet(guess.cells[World.DAY]) : NONE;
      if (first != NONE) {
        return first;
      }
    }
    return NONE;
  }

  /** The NEEDS of a DAY are USED in the guess: the first that can't be. */
  private int firstUnmet(int day) {
    for (int i = 0; i < needCount && i < NEEDS; i++) {
      if (needDay[i] == day && !guess.takeFeet(needFeet[i], NONE)) {
        return i;
      }
    }
    return NONE;
  }

  public int enough(int feet, int n) {
    if (!within(feet, 1, 9999) || !within(n, 0, MOST_HOURS)) {
      return NONE;
    }
    foresee(n);
    int left = 1;
    while (left <= BALES && guess.longestFeet(BALES, left) < feet) {
      left++;
    }
    if (left > BALES) {
      return NONE;
    }
    int set = 0;
    int missing = feet;
    // from the highest BALE down: one is taken only where the lower ones wouldn't do, so the set is the lowest
    for (int b = BALES - 1; b >= 0; b--) {
      if (guess.longestFeet(b, left) < missing) {
        set |= 1 << b;
        missing -= guess.cells[World.LENGTH + b];
        left--;
      }
    }
    return set;
  }

  public int over(int thing, int n, int hour, int what) {
    boolean fine = told.hasThing(thing) && within(n, 1, Harvest.DAYS_AHEAD) && within(hour, 0, HOURS - 1);
    if (!fine || !within(what, 0, 1)) {
      return NONE;
    }
    harvest.start(thing, n, hour, now.cells);
    return what == 0 ? harvest.best : harvest.bestDays;
  }

  public int whose(int kind, int feet, int day) {
    if (!within(kind, 0, KINDS - 1) || !within(feet, 1, 999) || !within(day, 0, LAST_DAY)) {
      return NONE;
    }
    int set = 0;
    for (int t = 0; t < told.things && t < THINGS; t++) {
      if (told.kind[t] == kind && hoursOf(t, feet, day) != 0) {
        set |= 1 << t;
      }
    }
    return set;
  }

  public int at(int thing, int feet, int day) {
    if (!told.hasThing(thing) || !within(feet, 1, 999) || !within(day, 0, LAST_DAY)) {
      return NONE;
    }
    return hoursOf(thing, feet, day);
  }

  /** The HOURS (bits) at which a grown THING's SHADOW is so long under no CLOUD. */
  private int hoursOf(int thing, int feet, int day) {
    int set = 0;
    for (int h = 0; h < HOURS; h++) {
      if (laws.shadow(thing, 100, h, day, 0) == feet) {
        set |= 1 << h;
      }
    }
    return set;
  }

  public int leave(int a, int b, int c, int d) {
    if (!within(a, 0, 9999) || !within(b, 0, 9999) || !within(c, 0, 9999) || !within(d, 0, 9999)) {
      return NONE;
    }
    for (int set = 1; set < 1 << OWNERS; set++) {
      int shares = (set & 1) * a + (set >> 1 & 1) * b + (set >> 2 & 1) * c + (set >> 3 & 1) * d;
      if (now.shadowsOf(Integer.bitCount(set) >= 3 ? set | 1 << COMMONS : set) > shares) {
        return set;
      }
    }
    return NONE;
  }

  public int packed(int bales, int i) {
    if (!within(bales, 1, (1 << BALES) - 1) || Integer.bitCount(bales) > Packing.LOADS) {
      return NONE;
    }
    for (int b = 0; b < BALES; b++) {
      if ((bales >> b & 1) == 1 && !now.hasBale(b)) {
        return NONE;
      }
    }
    boolean can = packing.start(bales);
    if (!can || !within(i, NONE, Integer.bitCount(bales) - 1)) {
      return NONE;
    }
    return i == NONE ? packing.best : packing.barnAt(i);
  }

  public int when(int bale, int n, int what) {
    if (!now.hasBale(bale) || !within(n, 0, MOST_HOURS) || !within(what, 0, 1)) {
      return NONE;
    }
    guess.takeFrom(now.cells);
    int most = NONE;
    int first = NONE;
    for (int h = 0; h <= n; h++) {
      int pence = guess.hasBale(bale) ? guess.sellsOf(bale) : NONE;
      if (pence > most) {
        most = pence;
        first = h;
      }
      if (!guess.passHour()) {
        break;
      }
    }
    return what == 0 ? first : most;
  }

  public int hail(int n, int k, boolean low) {
    if (!within(n, 1, 9) || !within(k, 0, 9)) {
      return NONE;
    }
    int all = 1;
    int clear = 1;
    for (int i = 0; i < n; i++) {
      all *= 5;
      clear *= 4;
    }
    int upper = 0;
    int ways = 1;
    for (int hails = 0; hails <= n; hails++) {
      if (hails >= k) {
        upper += ways * clear;
      }
      ways = ways * (n - hails) / (hails + 1);
      clear /= 4;
    }
    // 5 is prime: the terms can only have fives in common
    for (int i = 0; i < n && upper % 5 == 0; i++) {
      upper /= 5;
      all /= 5;
    }
    return low ? all : upper;
  }

  public int image() {
    kept.keepWorld(now.cells, steps);
    kept.keepTold(told.things, told.reapers, told.barns);
    kept.keepTexts(textCount, rule);
    kept.keepNeeds(needDay, needFeet, needCount);
    return now.cells[World.DAY];
  }

  public int back() {
    kept.giveWorld(now.cells, steps);
    told.things = kept.things;
    told.reapers = kept.reapers;
    told.barns = kept.barns;
    textCount = kept.texts;
    setRule(kept.rule);
    kept.giveNeeds(needDay, needFeet);
    needCount = kept.needs;
    return now.cells[World.DAY];
  }

  public int about(int what) {
    switch (what) {
      case 0: return told.things;
      case 1: return told.reapers;
      case 2: return told.barns;
      case 3: return now.cells[World.HOUR];
      case 4: return now.cells[World.DAY];
      case 5: return now.cells[World.CLOUD];
      case 6: return now.cells[World.PENCE];
      case 7: return now.cells[World.X];
      case 8: return textCount;
      case 9: return rule;
      case 10: return steps.size;
      case 11: return needCount;
      case 12: return tape.size;
      default: return OTHERS;
    }
  }

  /** THINGS, REAPERS and BARNS as they were told: no STEP changes them. */
  private static final class Told {
    final int[] height = new int[THINGS];
    final int[] kind = new int[THINGS];
    final int[] owner = new int[THINGS];
    final int[] reach = new int[REAPERS];
    final int[] room = new int[BARNS];
    int things = 0;
    int reapers = 0;
    int barns = 0;

    boolean hasThing(int t) {
      return t >= 0 && t < things && t < THINGS;
    }

    boolean hasReaper(int r) {
      return r >= 0 && r < reapers && r < REAPERS;
    }

    boolean hasBarn(int b) {
      return b >= 0 && b < barns && b < BARNS;
    }

    int addThing(int newHeight, int newKind, int newOwner) {
      if (things >= THINGS) {
        return NONE;
      }
      height[things] = newHeight;
      kind[things] = newKind;
      owner[things] = newOwner;
      things++;
      return things - 1;
    }

    int addReaper(int newReach) {
      if (reapers >= REAPERS) {
        return NONE;
      }
      reach[reapers] = newReach;
      reapers++;
      return reapers - 1;
    }

    int addBarn(int newRoom) {
      if (barns >= BARNS) {
        return NONE;
      }
      room[barns] = newRoom;
      barns++;
      return barns - 1;
    }
  }

  /** What STEPS change, in one row, so that it is copied as a whole. */
  private static final class World {
    static final int GROWN = 0;
    static final int THERE = GROWN + THINGS;
    static final int HAS_CUT = THERE + REAPERS;
    static final int KIND = HAS_CUT + REAPERS;
    static final int LENGTH = KIND + BALES;
    static final int DARK = LENGTH + BALES;
    static final int BARN = DARK + BALES;
    static final int HOUR = BARN + BALES;
    static final int DAY = HOUR + 1;
    static final int CLOUD = DAY + 1;
    static final int PENCE = CLOUD + 1;
    static final int X = PENCE + 1;
    static final int SIZE = X + 1;

    final int[] cells = firstRow();
    final Told told;
    final Laws laws;

    World(Told told, Laws laws) {
      this.told = told;
      this.laws = laws;
    }

    /** THINGS and REAPERS yet to be told stand in it already as they will be told, so every STEP has them too. */
    static int[] firstRow() {
      int[] row = new int[SIZE];
      for (int t = 0; t < THINGS; t++) {
        row[GROWN + t] = 100;
      }
      for (int r = 0; r < REAPERS; r++) {
        row[THERE + r] = 1;
      }
      row[X] = 83;
      return row;
    }

    void takeFrom(int[] row) {
      if (row.length == SIZE) {
        System.arraycopy(row, 0, cells, 0, SIZE);
      }
    }

    boolean hasBale(int b) {
      return b >= 0 && b < BALES && cells[LENGTH + b] > 0;
    }

    /** FEET in a BARN; in all for NONE. */
    int feetIn(int barn) {
      int feet = 0;
      for (int b = 0; b < BALES; b++) {
        if (barn == NONE || cells[BARN + b] == barn) {
          feet += cells[LENGTH + b];
        }
      }
      return feet;
    }

    private boolean hasRoom(int barn, int length) {
      return told.hasBarn(barn) && feetIn(barn) + length <= told.room[barn];
    }

    private int freeBale() {
      for (int b = 0; b < BALES; b++) {
        if (cells[LENGTH + b] == 0) {
          return b;
        }
      }
      return NONE;
    }

    private int balesIn(int barn) {
      int count = 0;
      for (int b = 0; b < BALES; b++) {
        if (cells[LENGTH + b] > 0 && cells[BARN + b] == barn) {
          count++;
        }
      }
      return count;
    }

    int shadowOf(int t) {
      return told.hasThing(t) ? laws.shadow(t, cells[GROWN + t], cells[HOUR], cells[DAY], cells[CLOUD]) : 0;
    }

    int growsOf(int t) {
      return told.hasThing(t) ? laws.growth(t, cells[GROWN + t], cells[DAY], cells[CLOUD]) : 0;
    }

    boolean mayCut(int t, int shadow) {
      return told.hasThing(t) && laws.allows(t, cells[GROWN + t], cells[HOUR], cells[DAY], shadow);
    }

    int spoilsOf(int b) {
      if (!hasBale(b)) {
        return 0;
      }
      laws.describe(cells[KIND + b], cells[LENGTH + b], cells[DARK + b], balesIn(cells[BARN + b]));
      return laws.spoiling(cells[DAY]);
    }

    int sellsOf(int b) {
      if (!hasBale(b)) {
        return 0;
      }
      laws.describe(cells[KIND + b], cells[LENGTH + b], cells[DARK + b], 0);
      return laws.price(cells[DAY], cells[HOUR]);
    }

    /** How long the BALE would be; 0 if it can't be CUT. */
    int cutLength(int t, int r, int barn) {
      if (!told.hasThing(t) || !told.hasReaper(r) || !told.hasBarn(barn)) {
        return 0;
      }
      if (cells[THERE + r] == 0 || cells[HAS_CUT + r] == 1 || freeBale() == NONE) {
        return 0;
      }
      int grown = cells[GROWN + t];
      int shadow = laws.shadow(t, grown, cells[HOUR], cells[DAY], cells[CLOUD]);
      int length = Math.min(shadow, told.reach[r]);
      if (length <= 0 || feetIn(barn) + length > told.room[barn]) {
        return 0;
      }
      return laws.allows(t, grown, cells[HOUR], cells[DAY], shadow) ? length : 0;
    }

    int cutOff(int t, int r, int barn) {
      int length = cutLength(t, r, barn);
      int shadow = shadowOf(t);
      if (length <= 0 || shadow <= 0 || !told.hasThing(t) || !told.hasReaper(r)) {
        return NONE;
      }
      cells[GROWN + t] -= cells[GROWN + t] * length / shadow;
      cells[HAS_CUT + r] = 1;
      return bind(told.kind[t], length, barn);
    }

    int sendOff(int r, int barn) {
      if (!told.hasReaper(r) || !hasRoom(barn, told.reach[r])) {
        return NONE;
      }
      if (cells[THERE + r] == 0 || freeBale() == NONE) {
        return NONE;
      }
      cells[THERE + r] = 0;
      return bind(LAST_KIND, told.reach[r], barn);
    }

    private int bind(int kind, int length, int barn) {
      int b = freeBale();
      if (b != NONE) {
        cells[KIND + b] = kind;
        cells[LENGTH + b] = length;
        cells[DARK + b] = 0;
        cells[BARN + b] = barn;
      }
      return b;
    }

    private void shorten(int b, int feet) {
      if (hasBale(b)) {
        cells[LENGTH + b] = Math.max(0, cells[LENGTH + b] - feet);
      }
    }

    /** From a BARN, from all BALES for NONE; nothing is done if there are not so many FEET. */
    boolean takeFeet(int feet, int barn) {
      if (feetIn(barn) < feet) {
        return false;
      }
      int left = feet;
      for (int i = 0; i < BALES && left > 0; i++) {
        int b = darkest(barn);
        int part = hasBale(b) ? Math.min(left, cells[LENGTH + b]) : 0;
        shorten(b, part);
        left -= part;
      }
      return true;
    }

    private int darkest(int barn) {
      int best = NONE;
      for (int b = 0; b < BALES; b++) {
        boolean there = hasBale(b) && (barn == NONE || cells[BARN + b] == barn);
        if (there && (best == NONE || cells[DARK + b] > cells[DARK + best])) {
          best = b;
        }
      }
      return best;
    }

    boolean carry(int b, int barn) {
      if (!hasBale(b) || cells[BARN + b] == barn || !hasRoom(barn, cells[LENGTH + b])) {
        return false;
      }
      cells[BARN + b] = barn;
      return true;
    }

    int sellOff(int b) {
      if (!hasBale(b)) {
        return NONE;
      }
      int pence = sellsOf(b);
      cells[PENCE] += pence;
      cells[LENGTH + b] = 0;
      return pence;
    }

    private int draw(int m) {
      int drawn = m > 0 ? cells[X] % m : 0;
      cells[X] = (cells[X] * 287 + 191) % 30313;
      return drawn;
    }

    int hoursLeft() {
      return (LAST_DAY - cells[DAY]) * HOURS + HOURS - 1 - cells[HOUR];
    }

    boolean passHour() {
      if (hoursLeft() <= 0) {
        return false;
      }
      for (int r = 0; r < REAPERS; r++) {
        cells[HAS_CUT + r] = 0;
      }
      cells[HOUR]++;
      if (cells[HOUR] < HOURS) {
        return true;
      }
      cells[HOUR] = 0;
      cells[DAY]++;
      cells[CLOUD] = draw(10);
      for (int t = 0; t < told.things && t < THINGS && cells[CLOUD] < HAIL_CLOUD; t++) {
        cells[GROWN + t] = Math.min(100, cells[GROWN + t] + growsOf(t));
      }
      // BALE by BALE, as here counts those alone that the ones ahead of it have left
      for (int b = 0; b < BALES; b++) {
        shorten(b, spoilsOf(b));
        cells[DARK + b] = Math.min(MOST_DARK, cells[DARK + b] + 1);
      }
      return true;
    }

    void passDecade() {
      int event = draw(6);
      if (event == 0) {
        int t = draw(told.things);
        int r = draw(told.reapers);
        int barn = draw(told.barns);
        cutOff(t, r, barn);
      } else if (event == 1) {
        sellOff(draw(BALES));
      } else if (event == 2) {
        int b = draw(BALES);
        shorten(b, 1 + draw(20));
      } else {
        passHour();
      }
    }

    int shadowsOf(int owners) {
      int feet = 0;
      for (int t = 0; t < told.things && t < THINGS; t++) {
        if ((owners >> told.owner[t] & 1) == 1) {
          feet += shadowOf(t);
        }
      }
      return feet;
    }

    /** FEET of so many of the BALES below one, the longest. */
    int longestFeet(int below, int count) {
      int taken = 0;
      int feet = 0;
      for (int i = 0; i < count; i++) {
        int best = NONE;
        for (int b = 0; b < below && b < BALES; b++) {
          boolean free = (taken >> b & 1) == 0;
          if (free && (best == NONE || cells[LENGTH + b] > cells[LENGTH + best])) {
            best = b;
          }
        }
        if (best == NONE) {
          break;
        }
        taken |= 1 << best;
        feet += cells[LENGTH + best];
      }
      return feet;
    }
  }

  /** The STEPS that can be taken back, each as the world was ahead of it. */
  private static final class Steps {
    /** One row more than STEPS: what is noted but not counted must not cover the oldest. */
    static final int ROWS = STEPS + 1;

    final int[] rows = new int[ROWS * World.SIZE];
    int first = 0;
    int size = 0;

    private int placeOf(int step) {
      return (first + step) % ROWS * World.SIZE;
    }

    void note(int[] cells) {
      int place = placeOf(size);
      if (cells.length == World.SIZE && place >= 0 && place + World.SIZE <= rows.length) {
        System.arraycopy(cells, 0, rows, place, World.SIZE);
      }
    }

    void count() {
      if (size < STEPS) {
        size++;
      } else {
        first = (first + 1) % ROWS;
      }
    }

    boolean takeBack(int[] cells) {
      int place = placeOf(size - 1);
      boolean fits = cells.length == World.SIZE && place >= 0 && place + World.SIZE <= rows.length;
      if (size <= 0 || !fits) {
        return false;
      }
      size--;
      System.arraycopy(rows, place, cells, 0, World.SIZE);
      return true;
    }

    void takeFrom(int[] otherRows, int otherFirst, int otherSize) {
      if (otherRows.length == rows.length) {
        System.arraycopy(otherRows, 0, rows, 0, rows.length);
        first = otherFirst;
        size = otherSize;
      }
    }
  }

  /** What going back brings again; TEXTS and all that is told only grow in number, so counts are enough. */
  private static final class Image {
    final int[] cells = World.firstRow();
    final Steps steps = new Steps();
    final int[] needDay = new int[NEEDS];
    final int[] needFeet = new int[NEEDS];
    int needs = 0;
    int things = 0;
    int reapers = 0;
    int barns = 0;
    int texts = 0;
    int rule = NONE;

    void keepWorld(int[] row, Steps others) {
      if (row.length == World.SIZE) {
        System.arraycopy(row, 0, cells, 0, World.SIZE);
      }
      steps.takeFrom(others.rows, others.first, others.size);
    }

    void giveWorld(int[] row, Steps others) {
      if (row.length == World.SIZE) {
        System.arraycopy(cells, 0, row, 0, World.SIZE);
      }
      others.takeFrom(steps.rows, steps.first, steps.size);
    }

    void keepTold(int newThings, int newReapers, int newBarns) {
      things = newThings;
      reapers = newReapers;
      barns = newBarns;
    }

    void keepTexts(int newTexts, int newRule) {
      texts = newTexts;
      rule = newRule;
    }

    void keepNeeds(int[] days, int[] feet, int count) {
      if (days.length == NEEDS && feet.length == NEEDS) {
        System.arraycopy(days, 0, needDay, 0, NEEDS);
        System.arraycopy(feet, 0, needFeet, 0, NEEDS);
        needs = count;
      }
    }

    void giveNeeds(int[] days, int[] feet) {
      if (days.length == NEEDS && feet.length == NEEDS) {
        System.arraycopy(needDay, 0, days, 0, NEEDS);
        System.arraycopy(needFeet, 0, feet, 0, NEEDS);
      }
    }
  }

  /** A text that was read: its laws as codes for a stack, its CLAUSES in their order. */
  private static final class Text {
    static final int LAWS = 5;
    static final int WIDTH = 4;
    /** A code is an operation times this and the number that it has with it. */
    static final int SPAN = 10000;

    static final int NUMBER = 0;
    static final int NAME = 1;
    static final int NEGATE = 2;
    static final int PART = 3;
    static final int NOT = 4;
    static final int ADD = 5;
    static final int SUBTRACT = 6;
    static final int TIMES = 7;
    static final int DIVIDE = 8;
    static final int LESS = 9;
    static final int AT_MOST = 10;
    static final int MORE = 11;
    static final int AT_LEAST = 12;
    static final int LIKE = 13;
    static final int UNLIKE = 14;
    static final int AND = 15;
    static final int OR = 16;

    final int[] codes = new int[TAPE];
    int codeCount = 0;
    final int[] start = new int[LAWS];
    final int[] stop = new int[LAWS];
    final int[] clauses = new int[CLAUSES * WIDTH];
    int clauseCount = 0;

    void clear() {
      codeCount = 0;
      clauseCount = 0;
      for (int i = 0; i < LAWS; i++) {
        start[i] = 0;
        stop[i] = 0;
      }
    }

    boolean hasLaw(int law) {
      return law >= 0 && law < LAWS && stop[law] > start[law];
    }

    void openLaw(int law) {
      if (law >= 0 && law < LAWS) {
        start[law] = codeCount;
      }
    }

    void closeLaw(int law) {
      if (law >= 0 && law < LAWS) {
        stop[law] = codeCount;
      }
    }

    void emit(int operation, int number) {
      if (codeCount < codes.length) {
        codes[codeCount] = operation * SPAN + number;
        codeCount++;
      }
    }

    void addClause(int word) {
      int at = clauseCount * WIDTH;
      if (at >= 0 && at + WIDTH <= clauses.length) {
        clauses[at] = word;
        for (int i = 1; i < WIDTH; i++) {
          clauses[at + i] = 0;
        }
        clauseCount++;
      }
    }

    /** The i-th number (from 0) of the latest CLAUSE. */
    void setNumber(int i, int number) {
      int at = (clauseCount - 1) * WIDTH + 1 + i;
      if (i >= 0 && i < WIDTH - 1 && at >= 0 && at < clauses.length) {
        clauses[at] = number;
      }
    }
  }

  /** The laws of THE TEXT, and what is so without them. */
  private static final class Laws {
    static final int LONG = 0;
    static final int GROWS = 1;
    static final int SPOILS = 2;
    static final int SELLS = 3;
    static final int MAY = 4;

    static final int HOUR = 0;
    static final int DAY = 1;
    static final int KIND = 2;
    static final int HEIGHT = 3;
    static final int GROWN = 4;
    static final int CLOUD = 5;
    static final int DARK = 6;
    static final int LENGTH = 7;
    static final int HERE = 8;
    static final int OWNER = 9;
    static final int SHADOW = 10;
    static final int NAMES = 11;

    static final long LIMIT = 1000000L;

    final Told told;
    Text ruling;
    final int[] names = new int[NAMES];
    final long[] stack = new long[64];

    Laws(Told told, Text plain) {
      this.told = told;
      this.ruling = plain;
    }

    private void describeThing(int t, int grown, int day) {
      if (t >= 0 && t < THINGS) {
        names[KIND] = told.kind[t];
        names[HEIGHT] = told.height[t];
        names[OWNER] = told.owner[t];
      }
      names[GROWN] = grown;
      names[DAY] = day;
    }

    int shadow(int t, int grown, int hour, int day, int cloud) {
      describeThing(t, grown, day);
      if (!ruling.hasLaw(LONG)) {
        return names[HEIGHT] * grown * (1 + Math.abs(hour - 5)) / 200;
      }
      names[HOUR] = hour;
      names[CLOUD] = cloud;
      return run(LONG, 999);
    }

    int growth(int t, int grown, int day, int cloud) {
      if (!ruling.hasLaw(GROWS)) {
        return 10;
      }
      describeThing(t, grown, day);
      names[CLOUD] = cloud;
      return run(GROWS, 100);
    }

    boolean allows(int t, int grown, int hour, int day, int shadow) {
      if (!ruling.hasLaw(MAY)) {
        return true;
      }
      describeThing(t, grown, day);
      names[HOUR] = hour;
      names[SHADOW] = shadow;
      return run(MAY, 1) == 1;
    }

    void describe(int kind, int length, int dark, int here) {
      names[KIND] = kind;
      names[LENGTH] = length;
      names[DARK] = dark;
      names[HERE] = here;
    }

    /** Of the BALE that was described. */
    int spoiling(int day) {
      names[DAY] = day;
      return ruling.hasLaw(SPOILS) ? run(SPOILS, 999) : 1;
    }

    /** Of the BALE that was described. */
    int price(int day, int hour) {
      names[DAY] = day;
      names[HOUR] = hour;
      return ruling.hasLaw(SELLS) ? run(SELLS, 9999) : names[LENGTH];
    }

    /** What the law says, 0 at least. */
    private int run(int law, int greatest) {
      int top = 0;
      if (law < 0 || law >= Text.LAWS) {
        return 0;
      }
      for (int i = ruling.start[law]; i >= 0 && i < ruling.stop[law] && i < ruling.codes.length; i++) {
        int operation = ruling.codes[i] / Text.SPAN;
        int n = ruling.codes[i] % Text.SPAN;
        long right = top > 0 ? stack[top - 1] : 0;
        long left = top > 1 ? stack[top - 2] : 0;
        long value;
        switch (operation) {
          case Text.NUMBER: value = n; break;
          case Text.NAME: value = n >= 0 && n < NAMES ? names[n] : 0; break;
          case Text.NEGATE: value = -right; break;
          case Text.PART: value = right * n / 100; break;
          case Text.NOT: value = 1 - right; break;
          case Text.ADD: value = left + right; break;
          case Text.SUBTRACT: value = left - right; break;
          case Text.TIMES: value = left * right; break;
          case Text.DIVIDE: value = right == 0 ? 0 : left / right; break;
          case Text.LESS: value = left < right ? 1 : 0; break;
          case Text.AT_MOST: value = left <= right ? 1 : 0; break;
          case Text.MORE: value = left > right ? 1 : 0; break;
          case Text.AT_LEAST: value = left >= right ? 1 : 0; break;
          case Text.LIKE: value = left == right ? 1 : 0; break;
          case Text.UNLIKE: value = left != right ? 1 : 0; break;
          case Text.AND: value = left & right; break;
          default: value = left | right; break;
        }
        if (operation <= Text.NAME) {
          top++;
        } else if (operation >= Text.ADD) {
          top--;
        }
        if (top < 1 || top > stack.length) {
          return 0;
        }
        stack[top - 1] = Math.max(-LIMIT, Math.min(LIMIT, value));
      }
      return top > 0 ? (int) Math.max(0, Math.min(greatest, stack[0])) : 0;
    }
  }

  /** The tape, and the TOKENS on it. */
  private static final class Tape {
    static final int END = 0;
    static final int ALIEN = 1;
    static final int NUMBER = 2;
    static final int WORD = 3;
    /** Any other TOKEN of one sign is its byte. */
    static final int AT_MOST = 256;
    static final int AT_LEAST = 257;

    /** Six places a word; those that begin a CLAUSE are first, the NAMES go from hour to shadow. */
    static final String WORDS = "long  grows spoilssells may   thing reaperbarn  cut   last  use   move  sell  hour  day   kind  heightgrown cloud dark  lengthhere  owner shadowof    by    to    from  or    and   not   part  ";
    static final int WORD_WIDTH = 6;

    static final int MAY = 4;
    static final int THING = 5;
    static final int REAPER = 6;
    static final int BARN = 7;
    static final int CUT = 8;
    static final int LAST = 9;
    static final int USE = 10;
    static final int MOVE = 11;
    static final int SELL = 12;
    static final int HOUR = 13;
    static final int KIND = 15;
    static final int SHADOW = 23;
    static final int OF = 24;
    static final int BY = 25;
    static final int TO = 26;
    static final int FROM = 27;
    static final int OR = 28;
    static final int AND = 29;
    static final int NOT = 30;
    static final int PART = 31;

    static final String SIGNS = "<>=#+-*/();";
    /** More than any NUMBER may be: what is above needs no telling apart. */
    static final int TOO_MUCH = 10000;

    final int[] bytes = new int[TAPE];
    int size = 0;
    /** Of each TOKEN: what it is, which number or word, where it begins; the last one is END. */
    final int[] tokens = new int[TAPE + 1];
    final int[] values = new int[TAPE + 1];
    final int[] places = new int[TAPE + 1];
    int tokenCount = 0;

    boolean hasRoom(int more) {
      return size + more <= TAPE;
    }

    void add(int four) {
      for (int shift = 24; shift >= 0 && size >= 0 && size < TAPE; shift -= 8) {
        bytes[size] = four >> shift & 255;
        size++;
      }
    }

    private int byteAt(int i) {
      return i >= 0 && i < size && i < TAPE ? bytes[i] : 0;
    }

    private static boolean isDigit(int c) {
      return c >= '0' && c <= '9';
    }

    private static boolean isLetter(int c) {
      return c >= 'a' && c <= 'z' || c >= 'A' && c <= 'Z';
    }

    void split() {
      tokenCount = 0;
      int i = 0;
      while (i < size) {
        int c = byteAt(i);
        int next = i + 1;
        if (isDigit(c)) {
          next = endOfDigits(i);
          addToken(NUMBER, numberIn(i, next), i);
        } else if (isLetter(c)) {
          next = endOfLetters(i);
          addToken(WORD, wordIn(i, next), i);
        } else if ((c == '<' || c == '>') && byteAt(next) == '=') {
          next = i + 2;
          addToken(c == '<' ? AT_MOST : AT_LEAST, 0, i);
        } else if (c != ' ' && c != '\n') {
          addToken(SIGNS.indexOf((char) c) >= 0 ? c : ALIEN, 0, i);
        }
        i = Math.max(next, i + 1);
      }
      addToken(END, 0, size);
    }

    private void addToken(int token, int value, int place) {
      if (tokenCount >= 0 && tokenCount < tokens.length) {
        tokens[tokenCount] = token;
        values[tokenCount] = value;
        places[tokenCount] = place;
        tokenCount++;
      }
    }

    private int endOfDigits(int from) {
      int i = from;
      while (i < size && isDigit(byteAt(i))) {
        i++;
      }
      return i;
    }

    private int endOfLetters(int from) {
      int i = from;
      while (i < size && isLetter(byteAt(i))) {
        i++;
      }
      return i;
    }

    private int numberIn(int from, int to) {
      int number = 0;
      for (int i = from; i < to; i++) {
        number = Math.min(TOO_MUCH, number * 10 + byteAt(i) - '0');
      }
      return number;
    }

    private int wordIn(int from, int to) {
      for (int word = 0; word <= PART; word++) {
        if (isWord(word, from, to)) {
          return word;
        }
      }
      return NONE;
    }

    private boolean isWord(int word, int from, int to) {
      boolean like = to - from <= WORD_WIDTH;
      for (int i = 0; i < WORD_WIDTH && like; i++) {
        int sign = word * WORD_WIDTH + i;
        int c = from + i < to ? byteAt(from + i) : ' ';
        like = sign >= 0 && sign < WORDS.length() && WORDS.charAt(sign) == c;
      }
      return like;
    }
  }

  /** Reads the tape as a TEXT; its methods answer whether there is no FAULT yet. */
  private static final class Reader {
    static final int STRANGE = 1;
    static final int UNTOLD = 2;
    static final int TOO_DEEP = 3;
    static final int TWICE = 4;
    static final int WRONG_NAME = 5;
    static final int TOO_MANY = 6;
    static final int DEEPEST = 8;

    /** For each CLAUSE from thing to hour, three times: the least, the greatest, the word behind (none: 0). */
    private static final int[] FORMS = {
      1, 99, Tape.KIND, 0, 5, Tape.OF, 0, 4, 0,
      1, 99, 0, 0, 0, 0, 0, 0, 0,
      1, 999, 0, 0, 0, 0, 0, 0, 0,
      0, 7, Tape.BY, 0, 3, Tape.TO, 0, 3, 0,
      0, 3, Tape.TO, 0, 3, 0, 0, 0, 0,
      1, 999, Tape.FROM, 0, 3, 0, 0, 0, 0,
      0, 11, Tape.TO, 0, 3, 0, 0, 0, 0,
      0, 11, 0, 0, 0, 0, 0, 0, 0,
      1, 60, 0, 0, 0, 0, 0, 0, 0
    };

    /** For each law its NAMES (bits, hour as 1, day as 2, and so on as the words stand). */
    private static final int[] NAMES_OF = {63, 62, 454, 199, 1567};

    final Tape tape;
    private Text target;
    private int allowed = 0;
    /** The TOKEN that is come to. */
    private int at = 0;
    private int token = Tape.END;
    private int value = 0;
    boolean hasRead = false;
    int wrong = 0;
    int place = NONE;

    Reader(Tape tape, Text plain) {
      this.tape = tape;
      this.target = plain;
    }

    boolean read(Text into) {
      target = into;
      target.clear();
      hasRead = true;
      wrong = 0;
      place = NONE;
      tape.split();
      at = NONE;
      advance();
      boolean fine = true;
      for (int i = 0; i <= CLAUSES && fine && token != Tape.END; i++) {
        fine = clause(i);
      }
      return fine;
    }

    private void advance() {
      at++;
      boolean inside = at >= 0 && at < tape.tokenCount && at < tape.tokens.length;
      token = inside ? tape.tokens[at] : Tape.END;
      value = inside ? tape.values[at] : 0;
    }

    private boolean fail(int fault) {
      wrong = fault;
      place = at >= 0 && at < tape.places.length ? tape.places[at] : tape.size;
      return false;
    }

    private boolean sign(int sign) {
      if (token != sign) {
        return fail(STRANGE);
      }
      advance();
      return true;
    }

    private boolean isWord(int word) {
      return token == Tape.WORD && value == word;
    }

    private boolean word(int word) {
      if (!isWord(word)) {
        return fail(STRANGE);
      }
      advance();
      return true;
    }

    private boolean number(int least, int greatest) {
      if (token != Tape.NUMBER) {
        return fail(STRANGE);
      }
      if (value < least || value > greatest) {
        return fail(UNTOLD);
      }
      advance();
      return true;
    }

    private boolean clause(int number) {
      int opener = value;
      if (token != Tape.WORD || opener < 0 || opener > Tape.HOUR) {
        return fail(STRANGE);
      }
      if (target.hasLaw(opener)) {
        return fail(TWICE);
      }
      if (number >= CLAUSES) {
        return fail(TOO_MANY);
      }
      target.addClause(opener);
      advance();
      if (opener >= NAMES_OF.length) {
        return deed(opener) && sign(';');
      }
      allowed = NAMES_OF[opener];
      target.openLaw(opener);
      boolean fine = opener == Tape.MAY ? either() : sum(0);
      target.closeLaw(opener);
      return fine && sign(';');
    }

    private boolean deed(int opener) {
      for (int i = 0; i < 3; i++) {
        int form = (opener - Tape.THING) * 9 + i * 3;
        if (form < 0 || form + 2 >= FORMS.length) {
          return fail(STRANGE);
        }
        target.setNumber(i, value);
        if (!number(FORMS[form], FORMS[form + 1])) {
          return false;
        }
        if (FORMS[form + 2] == 0) {
          return true;
        }
        if (!word(FORMS[form + 2])) {
          return false;
        }
      }
      return true;
    }

    private boolean either() {
      boolean fine = ask();
      // an or waits until its right BOTH stands whole, as and binds closer
      boolean waits = false;
      for (int i = 0; i < TAPE && fine && (isWord(Tape.OR) || isWord(Tape.AND)); i++) {
        boolean and = isWord(Tape.AND);
        if (!and && waits) {
          target.emit(Text.OR, 0);
        }
        waits = waits || !and;
        advance();
        fine = ask();
        if (and) {
          target.emit(Text.AND, 0);
        }
      }
      if (waits) {
        target.emit(Text.OR, 0);
      }
      return fine;
    }

    private boolean ask() {
      int nots = 0;
      while (nots < DEEPEST && isWord(Tape.NOT)) {
        advance();
        nots++;
      }
      if (isWord(Tape.NOT)) {
        return fail(TOO_DEEP);
      }
      if (!sum(nots)) {
        return false;
      }
      int comparison = comparisonOf(token);
      if (comparison == NONE) {
        return fail(STRANGE);
      }
      advance();
      boolean fine = sum(nots);
      target.emit(comparison, 0);
      for (int i = 0; i < nots; i++) {
        target.emit(Text.NOT, 0);
      }
      return fine;
    }

    private static int comparisonOf(int token) {
      switch (token) {
        case '<': return Text.LESS;
        case Tape.AT_MOST: return Text.AT_MOST;
        case '>': return Text.MORE;
        case Tape.AT_LEAST: return Text.AT_LEAST;
        case '=': return Text.LIKE;
        case '#': return Text.UNLIKE;
        default: return NONE;
      }
    }

    private boolean sum(int depth) {
      boolean fine = product(depth);
      for (int i = 0; i < TAPE && fine && (token == '+' || token == '-'); i++) {
        int operation = token == '+' ? Text.ADD : Text.SUBTRACT;
        advance();
        fine = product(depth);
        target.emit(operation, 0);
      }
      return fine;
    }

    private boolean product(int depth) {
      boolean fine = one(depth);
      for (int i = 0; i < TAPE && fine && (token == '*' || token == '/'); i++) {
        int operation = token == '*' ? Text.TIMES : Text.DIVIDE;
        advance();
        fine = one(depth);
        target.emit(operation, 0);
      }
      return fine;
    }

    private boolean one(int depth) {
      if (token == Tape.NUMBER) {
        target.emit(Text.NUMBER, Math.min(value, Text.SPAN - 1));
        return number(0, 9999);
      }
      if (token == Tape.WORD && value >= Tape.HOUR && value <= Tape.SHADOW) {
        return name(value - Tape.HOUR);
      }
      boolean part = isWord(Tape.PART);
      boolean minus = token == '-';
      if (!part && !minus && token != '(') {
        return fail(STRANGE);
      }
      if (depth >= DEEPEST) {
        return fail(TOO_DEEP);
      }
      advance();
      if (part) {
        return part(depth + 1);
      }
      if (!minus) {
        return sum(depth + 1) && sign(')');
      }
      boolean fine = one(depth + 1);
      target.emit(Text.NEGATE, 0);
      return fine;
    }

    private boolean name(int name) {
      if ((allowed >> name & 1) == 0) {
        return fail(WRONG_NAME);
      }
      target.emit(Text.NAME, name);
      advance();
      return true;
    }

    private boolean part(int depth) {
      int hundredths = value;
      if (!number(0, 100) || !word(Tape.OF)) {
        return false;
      }
      boolean fine = one(depth);
      target.emit(Text.PART, hundredths);
      return fine;
    }
  }

  /** THE MOST that a REAPER brings: all ways through the HOURS, of like ones the one asked for first. */
  private static final class Mowing {
    static final int HOURS_AHEAD = 4;
    static final int NO_THING = THINGS;

    final World world;
    private final int[] rows = new int[HOURS_AHEAD * World.SIZE];
    private final int[] things = new int[HOURS_AHEAD];
    private final int[] bestThings = new int[HOURS_AHEAD];
    int best = NONE;
    private int reaper = 0;
    private int reach = 0;
    private int barn = 0;
    private int hours = 0;

    Mowing(World world) {
      this.world = world;
    }

    /** The world is as now, and is changed. */
    void start(int newReaper, int newBarn, int n) {
      best = NONE;
      reaper = newReaper;
      reach = world.told.hasReaper(reaper) ? world.told.reach[reaper] : 0;
      barn = newBarn;
      hours = n;
      search(this, 0, 0);
    }

    int thingAt(int i) {
      return i >= 0 && i < HOURS_AHEAD ? bestThings[i] : NONE;
    }

    private static void search(Mowing m, int i, int sum) {
      // what can't bring more than the best way so far would only come behind it
      boolean hopeless = sum + (m.hours - i) * m.reach <= m.best;
      if (i < 0 || i >= HOURS_AHEAD || i >= m.hours || hopeless) {
        return;
      }
      System.arraycopy(m.world.cells, 0, m.rows, i * World.SIZE, World.SIZE);
      for (int choice = 0; choice <= THINGS; choice++) {
        int thing = choice == 0 ? NO_THING : choice - 1;
        int length = m.world.cutLength(thing, m.reaper, m.barn);
        if (thing != NO_THING && length == 0) {
          continue;
        }
        m.things[i] = thing;
        if (i + 1 == m.hours) {
          m.consider(sum + length);
          continue;
        }
        m.world.cutOff(thing, m.reaper, m.barn);
        m.world.passHour();
        search(m, i + 1, sum + length);
        System.arraycopy(m.rows, i * World.SIZE, m.world.cells, 0, World.SIZE);
      }
    }

    private void consider(int sum) {
      if (sum > best) {
        best = sum;
        System.arraycopy(things, 0, bestThings, 0, HOURS_AHEAD);
      }
    }
  }

  /** One THING alone over DAYS: all sets of them, of like ones the one asked for first. */
  private static final class Harvest {
    static final int DAYS_AHEAD = 8;

    final Laws laws;
    int best = NONE;
    int bestDays = 0;
    private int thing = 0;
    private int days = 0;
    private int hour = 0;
    private int firstDay = 0;
    private int cloud = 0;

    Harvest(Laws laws) {
      this.laws = laws;
    }

    void start(int newThing, int n, int newHour, int[] cells) {
      best = NONE;
      bestDays = 0;
      thing = newThing;
      days = n;
      hour = newHour;
      if (cells.length == World.SIZE && laws.told.hasThing(thing)) {
        firstDay = cells[World.DAY];
        cloud = cells[World.CLOUD];
        search(this, 0, cells[World.GROWN + thing], 0, 0);
      }
    }

    private static void search(Harvest h, int i, int grown, int sum, int set) {
      if (i >= h.days || i >= DAYS_AHEAD) {
        if (sum > h.best) {
          h.best = sum;
          h.bestDays = set;
        }
        return;
      }
      int shadow = h.laws.shadow(h.thing, grown, h.hour, h.firstDay + i, h.cloud);
      search(h, i + 1, h.grownBehind(grown, i), sum, set);
      search(h, i + 1, h.grownBehind(0, i), sum + shadow, set | 1 << i);
    }

    private int grownBehind(int grown, int i) {
      return Math.min(100, grown + laws.growth(thing, grown, firstDay + i, cloud));
    }
  }

  /** BALES into BARNS by KINDS: all ways, of like ones the one asked for first. */
  private static final class Packing {
    static final int LOADS = 6;

    final World world;
    private final int[] loads = new int[LOADS];
    private int loadCount = 0;
    private final int[] kinds = new int[BARNS];
    private final int[] feet = new int[BARNS];
    private final int[] barns = new int[LOADS];
    private final int[] bestBarns = new int[LOADS];
    int best = NONE;

    Packing(World world) {
      this.world = world;
    }

    boolean start(int set) {
      loadCount = 0;
      for (int b = 0; b < BALES && loadCount < LOADS; b++) {
        if ((set >> b & 1) == 1) {
          loads[loadCount] = b;
          loadCount++;
        }
      }
      for (int b = 0; b < BARNS; b++) {
        feet[b] = 0;
      }
      best = NONE;
      search(this, 0, 0);
      return best != NONE;
    }

    int barnAt(int i) {
      return i >= 0 && i < LOADS ? bestBarns[i] : NONE;
    }

    private static void search(Packing p, int i, int used) {
      if (i < 0 || p.best != NONE && used >= p.best) {
        return;
      }
      if (i >= p.loadCount || i >= LOADS) {
        p.best = used;
        System.arraycopy(p.barns, 0, p.bestBarns, 0, LOADS);
        return;
      }
      int load = p.loads[i];
      if (!p.world.hasBale(load)) {
        return;
      }
      int kind = p.world.cells[World.KIND + load];
      int length = p.world.cells[World.LENGTH + load];
      for (int b = 0; b < p.world.told.barns && b < BARNS; b++) {
        boolean empty = p.feet[b] == 0;
        if ((empty || p.kinds[b] == kind) && p.feet[b] + length <= p.world.told.room[b]) {
          p.kinds[b] = kind;
          p.barns[i] = b;
          p.feet[b] += length;
          search(p, i + 1, empty ? used + 1 : used);
          p.feet[b] -= length;
        }
      }
    }
  }
}
