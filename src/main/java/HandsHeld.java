import java.util.Arrays;

/** A hall of people on two sides who hold up their hands hour by hour, and what can come of it. */
public final class HandsHeld {
  public static final int NONE = -1;

  private static final int PERSONS = 5;
  private static final int STRENGTHS = 5;
  private static final int STRONGEST = 4;
  private static final int COLDEST = 9;
  private static final int SETS = 32;
  private static final int STATES = 3125;
  private static final int TAPE_ROOM = 900;
  private static final int TRAYS = 4;
  private static final int TRAY_ROOM = 40;
  private static final int IMAGES = 2;
  private static final int UNDOABLE = 10;
  private static final int LOTS = 10;
  /** Far above what any loop here can need. */
  private static final int MANY = 1000000;

  private static final int NO_SUCH = -2;
  private static final int CANT_BE = -3;
  private static final int TOO_MANY = -4;
  private static final int NOT_NOW = -5;
  private static final int MISSING = -6;
  private static final int NO_NUMBER = -7;
  private static final int WHY_NOT = -10;
  private static final int FAULTY = -30;

  private static final int WHY_UNKNOWN = 1;
  private static final int WHY_WEAK = 2;
  private static final int CHANGE_DEEDS = 40;
  private static final int SOUP_DEEDS = 50;
  private static final int COLD_DEEDS = 60;
  private static final int DEEDS_END = 70;

  /** The strengths of all are told as one number, person p's times POWER[p]. */
  private static final int[] POWER = {1, 5, 25, 125, 625, 3125};

  private final byte[] tape = new byte[TAPE_ROOM];
  private int tapeSize;
  private final Reader reader = new Reader();
  private Hall house = new Hall();
  private Hall spare = new Hall();
  private final Moment now = new Moment();
  private final Moment trial = new Moment();
  private final Moment[] past = new Moment[UNDOABLE];
  private int pastSize;
  private final Tray[] trays = new Tray[TRAYS];
  private final Hall[] imageHouses = new Hall[IMAGES];
  private final Moment[] imageMoments = new Moment[IMAGES];
  private int imagesMade;
  private final Steps steps = new Steps();
  private final Watch watch = new Watch();
  private final Walk walk = new Walk();
  private final Duel duel = new Duel();
  private final Rows rows = new Rows();

  public HandsHeld() {
    for (int i = 0; i < UNDOABLE; i = i + 1) {
      past[i] = new Moment();
    }
    for (int i = 0; i < TRAYS; i = i + 1) {
      trays[i] = new Tray();
    }
    for (int i = 0; i < IMAGES; i = i + 1) {
      imageHouses[i] = new Hall();
      imageMoments[i] = new Moment();
    }
  }

  // ---- the hall

  public int feed(int a, int b, int c, int d, int e) {
    if (tapeSize + 20 > TAPE_ROOM) {
      return NOT_NOW;
    }
    tapeInt(a);
    tapeInt(b);
    tapeInt(c);
    tapeInt(d);
    tapeInt(e);
    return tapeSize;
  }

  public int hall(int n) {
    if (n < 0 || n > tapeSize) {
      return CANT_BE;
    }
    tapeSize = 0;
    reader.read(tape, n, spare);
    if (reader.fault != 0) {
      return FAULTY - reader.fault;
    }
    Hall old = house;
    house = spare;
    spare = old;
    now.begin(house);
    pastSize = 0;
    steps.stale = true;
    return house.lines;
  }

  public int fault(int what) {
    if (what == 0) {
      return reader.fault;
    }
    return what == 1 ? reader.faultPlace : NONE;
  }

  public int person(int p, int what) {
    if (!isPerson(p) || what < 0 || what > 4) {
      return NO_SUCH;
    }
    if (what == 0) {
      return now.sides >> p & 1;
    }
    if (what == 1) {
      return now.strengthOf(p);
    }
    if (what == 2) {
      return house.weightOf(p);
    }
    if (what == 3) {
      return house.rods >> p & 1;
    }
    return house.counting(p, now.strengthOf(p), now.sides, now.cold) ? 1 : 0;
  }

  public int by(int set, int p) {
    if (!isPerson(p)) {
      return NO_SUCH;
    }
    int refused = refusedSet(set);
    if (refused != 0) {
      return refused;
    }
    return house.tiredTo(p, now.strengthOf(p), now.sides, now.cold, set);
  }

  public int counted(int set, int side) {
    if (!isSide(side)) {
      return NO_SUCH;
    }
    int refused = refusedSet(set);
    if (refused != 0) {
      return refused;
    }
    return house.hands(now, set, side);
  }

  // ---- deeds

  public int hour(int set) {
    if (!isSet(set)) {
      return WHY_NOT - WHY_UNKNOWN;
    }
    int standing = house.standing(now, set);
    int why = doOne(set);
    return why == 0 ? standing : WHY_NOT - why;
  }

  public int change(int p) {
    int why = isPerson(p) ? doOne(CHANGE_DEEDS + p) : WHY_UNKNOWN;
    return why == 0 ? now.sides >> p & 1 : WHY_NOT - why;
  }

  public int soup(int p) {
    int before = now.strengthOf(p);
    int why = isPerson(p) ? doOne(SOUP_DEEDS + p) : WHY_UNKNOWN;
    return why == 0 ? before : WHY_NOT - why;
  }

  public int cold(int n) {
    int before = now.cold;
    int why = n >= 0 && n <= COLDEST ? doOne(COLD_DEEDS + n) : WHY_UNKNOWN;
    return why == 0 ? before : WHY_NOT - why;
  }

  public int undo(int n) {
    if (n < 1 || n > pastSize || pastSize > UNDOABLE) {
      return CANT_BE;
    }
    pastSize = pastSize - n;
    now.copy(past[pastSize]);
    return pastSize;
  }

  public int judge(int tray, int what) {
    if (what < 0 || what > 3) {
      return NO_SUCH;
    }
    int refused = refusedTray(tray);
    if (refused != 0) {
      return refused;
    }
    Tray deeds = trays[tray];
    trial.copy(now);
    int done = doAll(trial, deeds);
    boolean whole = done >= deeds.size;
    if (what == 0) {
      return whole ? NONE : done;
    }
    if (what == 1) {
      return whole ? 0 : tryDeed(trial, deeds.at(done));
    }
    return what == 2 ? trial.together() : trial.sides;
  }

  public int perform(int tray) {
    int refused = refusedTray(tray);
    if (refused != 0) {
      return refused;
    }
    trial.copy(now);
    int done = doAll(now, trays[tray]);
    if (done > 0) {
      keepPast(trial);
    }
    return done;
  }

  public int winter(int seed, int times) {
    if (times < 1 || times > 40) {
      return CANT_BE;
    }
    trial.copy(now);
    int x = seed;
    int done = 0;
    for (int i = 0; i < times; i = i + 1) {
      x = drawn(x);
      int kind = (x >>> 16) % 6;
      x = drawn(x);
      if (tryDeed(now, winterDeed(kind, x >>> 16)) == 0) {
        done = done + 1;
      }
    }
    if (done > 0) {
      keepPast(trial);
    }
    return done;
  }

  // ---- rosters

  public int holds(int side) {
    if (!isSide(side)) {
      return NO_SUCH;
    }
    return longest(aimAtSide(side), house.must);
  }

  public int roster(int side, int i) {
    if (!isSide(side)) {
      return NO_SUCH;
    }
    if (i < 0 || i > 99) {
      return CANT_BE;
    }
    longest(aimAtSide(side), house.must);
    return watch.setAt(steps, i);
  }

  public long rosters(int side, int n) {
    if (!isSide(side)) {
      return NO_SUCH;
    }
    if (n < 0 || n > 10) {
      return CANT_BE;
    }
    int own = aimAtSide(side);
    return rows.inHours(steps, now.code(own), n, house.must);
  }

  public int most(int side, int n) {
    if (!isSide(side)) {
      return NO_SUCH;
    }
    if (n < 1 || n > 20) {
      return CANT_BE;
    }
    int own = aimAtSide(side);
    for (int must = Integer.bitCount(own); must > 0; must = must - 1) {
      if (lastsFor(n, own, must)) {
        return must;
      }
    }
    return 0;
  }

  public int needed(int side, int n) {
    if (!isSide(side)) {
      return NO_SUCH;
    }
    if (n < 1 || n > 20) {
      return CANT_BE;
    }
    int own = aimAtSide(side);
    if (!lastsFor(n, own, house.must)) {
      return 0;
    }
    int needed = 0;
    for (int p = 0; p < PERSONS; p = p + 1) {
      int bit = own & 1 << p;
      if (bit != 0 && !lastsFor(n, own & ~bit, house.must)) {
        needed = needed | bit;
      }
    }
    return needed;
  }

  // ---- what can be

  public int stands() {
    aimAtAll();
    walk.spread(steps, nowCode(), NONE, false);
    return walk.size;
  }

  public int rested(int n) {
    if (n < 0 || n > STRONGEST) {
      return CANT_BE;
    }
    aimAtAll();
    walk.spread(steps, nowCode(), n, false);
    return walk.hoursToGoal();
  }

  public int restBy(int n, int i) {
    if (n < 0 || n > STRONGEST || i < 0) {
      return CANT_BE;
    }
    aimAtAll();
    walk.spread(steps, nowCode(), n, false);
    return walk.setAt(i);
  }

  public int steady() {
    aimAtAll();
    int code = nowCode();
    steps.standAt(code);
    int found = 0;
    for (int set = 0; set < steps.sets; set = set + 1) {
      if ((set & ~steps.able) == 0 && steps.to(set) == code) {
        found = found + 1;
      }
    }
    return found;
  }

  // ---- holding out

  public int outcome() {
    fight();
    return duel.resultNow();
  }

  public int tells() {
    fight();
    return duel.bestSet();
  }

  public int ends() {
    fight();
    return duel.hoursLeft();
  }

  // ---- seen

  public long seen(int tray) {
    int refused = refusedNumbers(tray, 8, NONE, PERSONS);
    if (refused != 0) {
      return refused;
    }
    look(tray);
    return rows.total();
  }

  public int seenBy(int tray, int i) {
    int refused = refusedNumbers(tray, 8, NONE, PERSONS);
    if (refused != 0) {
      return refused;
    }
    if (i < 0) {
      return CANT_BE;
    }
    look(tray);
    return rows.setAt(i);
  }

  public int surely(int tray) {
    int refused = refusedNumbers(tray, 8, NONE, PERSONS);
    if (refused != 0) {
      return refused;
    }
    look(tray);
    return rows.heldInAll();
  }

  // ---- tired

  public int colds(int tray, int p) {
    int refused = refusedTired(tray, p);
    if (refused != 0) {
      return refused;
    }
    return coldsBy(trays[tray], p);
  }

  public int attempt(int tray, int p) {
    int refused = refusedTired(tray, p);
    if (refused != 0) {
      return refused;
    }
    int candidates = coldsBy(trays[tray], p);
    if (candidates == 0) {
      return NONE;
    }
    int able = now.able();
    int best = NONE;
    int least = MANY;
    for (int set = 0; set < SETS; set = set + 1) {
      if ((set & ~able) == 0) {
        int alike = mostAlike(candidates, set);
        if (alike < least) {
          least = alike;
          best = set;
        }
      }
    }
    return best;
  }

  // ---- chances

  public int chance(int tray, int side, int what) {
    if (!isSide(side) || what < 0 || what > 1) {
      return NO_SUCH;
    }
    int refused = refusedNumbers(tray, 6, 0, house.everyone());
    if (refused != 0) {
      return refused;
    }
    aimAtAll();
    int own = house.ofSide(now.sides, side);
    long above = rows.fall(steps, nowCode(), trays[tray], own, house.must);
    return ofFraction(rows.total(), above, what);
  }

  public int mean(int tray, int what) {
    if (what < 0 || what > 1) {
      return NO_SUCH;
    }
    int refused = refusedNumbers(tray, 6, 0, house.everyone());
    if (refused != 0) {
      return refused;
    }
    aimAtAll();
    long below = rows.fall(steps, nowCode(), trays[tray], 0, 0);
    return ofFraction(rows.strengthsInAll(), below, what);
  }

  // ---- trays, images

  public int numbers(int tray, int sort, int n) {
    if (!isTray(tray) || sort < 0 || sort > 3) {
      return NO_SUCH;
    }
    if (n < 0 || n > TRAY_ROOM) {
      return CANT_BE;
    }
    trays[tray].begin(sort, n);
    return 0;
  }

  public long write(int tray, int i, long v) {
    int refused = refusedTray(tray);
    if (refused != 0) {
      return refused;
    }
    Tray into = trays[tray];
    if (i < 0 || i >= into.size) {
      return NO_NUMBER;
    }
    into.put(i, v);
    return into.at(i);
  }

  public int lists(int tray, int side) {
    if (!isSide(side)) {
      return NO_SUCH;
    }
    int refused = refusedTray(tray);
    if (refused != 0) {
      return refused;
    }
    longest(aimAtSide(side), house.must);
    return watch.listInto(steps, trays[tray]);
  }

  public int image(int i) {
    if (i < 0 || i >= IMAGES) {
      return NO_SUCH;
    }
    imageHouses[i].copy(house);
    imageMoments[i].copy(now);
    imagesMade = imagesMade | 1 << i;
    return 0;
  }

  public int restore(int i) {
    if (i < 0 || i >= IMAGES) {
      return NO_SUCH;
    }
    if ((imagesMade >> i & 1) == 0) {
      return NOT_NOW;
    }
    house.copy(imageHouses[i]);
    now.copy(imageMoments[i]);
    pastSize = 0;
    steps.stale = true;
    return 0;
  }

  public int count(int what) {
    switch (what) {
      case 0: return house.people;
      case 1: return house.must;
      case 2: return now.sides;
      case 3: return now.together();
      case 4: return now.able();
      case 5: return now.cold;
      case 6: return now.hours;
      case 7: return pastSize;
      case 8: return tapeSize;
      case 9: return house.lines;
      default: return NONE;
    }
  }

  // ---- what the calls share

  private void tapeInt(int four) {
    for (int shift = 24; shift >= 0 && tapeSize < TAPE_ROOM; shift = shift - 8) {
      tape[tapeSize] = (byte) (four >> shift);
      tapeSize = tapeSize + 1;
    }
  }

  private boolean isPerson(int p) {
    return p >= 0 && p < house.people;
  }

  private static boolean isSide(int side) {
    return side == 0 || side == 1;
  }

  private static boolean isTray(int tray) {
    return tray >= 0 && tray < TRAYS;
  }

  private boolean isSet(int set) {
    return (set & ~house.everyone()) == 0;
  }

  private int refusedSet(int set) {
    if (!isSet(set)) {
      return CANT_BE;
    }
    return (set & ~now.able()) == 0 ? 0 : NOT_NOW;
  }

  private int refusedTray(int tray) {
    if (!isTray(tray)) {
      return NO_SUCH;
    }
    return trays[tray].size < 0 ? MISSING : 0;
  }

  private int refusedNumbers(int tray, int most, int least, int greatest) {
    int refused = refusedTray(tray);
    if (refused != 0) {
      return refused;
    }
    Tray told = trays[tray];
    if (told.size < 1 || told.size > most) {
      return TOO_MANY;
    }
    return told.within(least, greatest) ? 0 : CANT_BE;
  }

  private int refusedTired(int tray, int p) {
    if (!isPerson(p)) {
      return NO_SUCH;
    }
    return refusedNumbers(tray, 10, 0, STRONGEST);
  }

  /** Does a deed to a moment, or tells why it can't be and leaves the moment as it was. */
  private int tryDeed(Moment moment, long deed) {
    if (deed < 0 || deed >= DEEDS_END) {
      return WHY_UNKNOWN;
    }
    int v = (int) deed;
    if (v < CHANGE_DEEDS) {
      if (v >= SETS || !isSet(v)) {
        return WHY_UNKNOWN;
      }
      return house.tire(moment, v) ? 0 : WHY_WEAK;
    }
    if (v >= COLD_DEEDS) {
      moment.cold = v - COLD_DEEDS;
      return 0;
    }
    int p = v >= SOUP_DEEDS ? v - SOUP_DEEDS : v - CHANGE_DEEDS;
    if (!isPerson(p)) {
      return WHY_UNKNOWN;
    }
    if (v >= SOUP_DEEDS) {
      moment.strengths[p] = STRONGEST;
    } else {
      moment.sides = moment.sides ^ 1 << p;
    }
    return 0;
  }

  private int doOne(int deed) {
    trial.copy(now);
    int why = tryDeed(now, deed);
    if (why == 0) {
      keepPast(trial);
    }
    return why;
  }

  private int doAll(Moment moment, Tray deeds) {
    for (int i = 0; i < deeds.size; i = i + 1) {
      if (tryDeed(moment, deeds.at(i)) != 0) {
        return i;
      }
    }
    return deeds.size;
  }

  private void keepPast(Moment before) {
    if (pastSize >= UNDOABLE) {
      Moment eldest = past[0];
      for (int i = 1; i < UNDOABLE; i = i + 1) {
        past[i - 1] = past[i];
      }
      past[UNDOABLE - 1] = eldest;
      pastSize = UNDOABLE - 1;
    }
    past[pastSize].copy(before);
    pastSize = pastSize + 1;
  }

  private static int drawn(int x) {
    return 1103515245 * x + 12345;
  }

  private static int winterDeed(int kind, int draw) {
    if (kind < 4) {
      return draw % SETS;
    }
    return (kind == 4 ? CHANGE_DEEDS : SOUP_DEEDS) + draw % PERSONS;
  }

  private void aimAtAll() {
    steps.aim(house, now, house.everyone());
  }

  private int nowCode() {
    return now.code(house.everyone());
  }

  /** Who is on a side: only their strengths matter for rosters. */
  private int aimAtSide(int side) {
    int own = house.ofSide(now.sides, side);
    steps.aim(house, now, own);
    return own;
  }

  private int longest(int allowed, int must) {
    return watch.longest(steps, now.code(steps.who), must, allowed);
  }

  private boolean lastsFor(int hours, int allowed, int must) {
    int most = longest(allowed, must);
    return most == NONE || most >= hours;
  }

  private void fight() {
    steps.aim(house, now, house.everyone());
    walk.spread(steps, nowCode(), NONE, true);
    duel.fight(steps, walk, nowCode());
  }

  private void look(int tray) {
    steps.aim(house, now, house.everyone());
    rows.look(steps, nowCode(), trays[tray]);
  }

  private int coldsBy(Tray told, int p) {
    int found = 0;
    for (int degree = 0; degree <= COLDEST; degree = degree + 1) {
      if (tiresSo(told, p, degree)) {
        found = found | 1 << degree;
      }
    }
    return found;
  }

  private boolean tiresSo(Tray told, int p, int degree) {
    int strength = now.strengthOf(p);
    for (int i = 0; i < told.size; i = i + 1) {
      int set = strength > 0 ? 1 << p : 0;
      strength = house.tiredTo(p, strength, now.sides, degree, set);
      if (strength != told.at(i)) {
        return false;
      }
    }
    return true;
  }

  /** By how many of the candidate colds, at most, an hour with a set would bring the same. */
  private int mostAlike(int candidates, int set) {
    int[] codes = rows.codes;
    int greatest = 0;
    for (int i = 0; i <= COLDEST && i < codes.length; i = i + 1) {
      if ((candidates >> i & 1) == 1) {
        codes[i] = house.codeAfter(now, set, i);
        int alike = 0;
        for (int j = 0; j <= i; j = j + 1) {
          if ((candidates >> j & 1) == 1 && codes[j] == codes[i]) {
            alike = alike + 1;
          }
        }
        greatest = Math.max(greatest, alike);
      }
    }
    return greatest;
  }

  private static int ofFraction(long above, long below, int what) {
    long a = below;
    long b = above;
    for (int i = 0; i < 100 && b != 0; i = i + 1) {
      long rest = a % b;
      a = b;
      b = rest;
    }
    if (a < 1) {
      return 0;
    }
    return (int) ((what == 0 ? above : below) / a);
  }

  private static int clamped(long value, int least, int greatest) {
    if (value < least) {
      return least;
    }
    return value > greatest ? greatest : (int) value;
  }

  /** The subset of a mask that comes next by number; 0 behind the last. */
  private static int nextWithin(int set, int mask) {
    return set - mask & mask;
  }

  /** A law as steps for a stack: numbers below VARIABLE, variables below PLUS, then operators. */
  private static final class Law {
    static final int VARIABLE = 1000;
    static final int PLUS = 2000;
    static final int MINUS = 2001;
    static final int TIMES = 2002;
    static final int EQUAL = 2003;
    static final int LESS = 2004;
    static final int MORE = 2005;
    static final int NOT = 2006;
    static final int AND = 2007;
    static final int OR = 2008;
    static final int CHOOSE = 2009;
    static final int MOST = 1000000;

    final int[] code = new int[TAPE_ROOM];
    /** 0: no such law was told. */
    int size;

    void put(int step) {
      if (size < code.length) {
        code[size] = step;
        size = size + 1;
      }
    }

    void copy(Law other) {
      size = Math.min(other.size, code.length);
      System.arraycopy(other.code, 0, code, 0, size);
    }

    int worked(int[] values, int[] stack) {
      int top = 0;
      for (int i = 0; i < size && i < code.length; i = i + 1) {
        int step = code[i];
        if (step >= PLUS) {
          top = operate(step, stack, top);
        } else if (top < stack.length) {
          stack[top] = step < VARIABLE ? step : valueOf(step - VARIABLE, values);
          top = top + 1;
        }
      }
      return top > 0 ? stack[top - 1] : 0;
    }

    private static int valueOf(int variable, int[] values) {
      return variable >= 0 && variable < values.length ? values[variable] : 0;
    }

    /** Answers how many stay on the stack. */
    private static int operate(int step, int[] stack, int top) {
      if (step == NOT && top >= 1) {
        stack[top - 1] = 1 - stack[top - 1];
        return top;
      }
      if (step == CHOOSE && top >= 3) {
        stack[top - 3] = stack[top - 3] != 0 ? stack[top - 2] : stack[top - 1];
        return top - 2;
      }
      if (top < 2) {
        return top;
      }
      long a = stack[top - 2];
      long b = stack[top - 1];
      stack[top - 2] = step <= TIMES ? reckoned(step, a, b) : compared(step, a, b);
      return top - 1;
    }

    private static int reckoned(int step, long a, long b) {
      long exact = step == TIMES ? a * b : step == PLUS ? a + b : a - b;
      return exact > MOST ? MOST : exact < -MOST ? -MOST : (int) exact;
    }

    private static int compared(int step, long a, long b) {
      boolean holds = a != 0 || b != 0;
      if (step == EQUAL) {
        holds = a == b;
      } else if (step == LESS) {
        holds = a < b;
      } else if (step == MORE) {
        holds = a > b;
      } else if (step == AND) {
        holds = a != 0 && b != 0;
      }
      return holds ? 1 : 0;
    }
  }

  /** What a text tells: people as they are at first, and the laws. */
  private static final class Hall {
    /** Deeper than six of not, [, (, if can make it: at most seven wait in each. */
    static final int STACK_ROOM = 100;

    int lines;
    int must = 1;
    int people;
    int cold;
    int sides;
    int rods;
    final int[] strengths = new int[PERSONS];
    final int[] weights = new int[PERSONS];
    final Law tires = new Law();
    final Law counts = new Law();
    final int[] values = new int[Reader.VARIABLES];
    final int[] stack = new int[STACK_ROOM];

    void clear() {
      lines = 0;
      must = 1;
      people = 0;
      cold = 0;
      sides = 0;
      rods = 0;
      tires.size = 0;
      counts.size = 0;
    }

    void copy(Hall other) {
      lines = other.lines;
      must = other.must;
      people = other.people;
      cold = other.cold;
      sides = other.sides;
      rods = other.rods;
      System.arraycopy(other.strengths, 0, strengths, 0, PERSONS);
      System.arraycopy(other.weights, 0, weights, 0, PERSONS);
      tires.copy(other.tires);
      counts.copy(other.counts);
    }

    int everyone() {
      return (1 << people) - 1;
    }

    int ofSide(int sidesNow, int side) {
      return (side == 1 ? sidesNow : ~sidesNow) & everyone();
    }

    int weightOf(int p) {
      return p >= 0 && p < PERSONS ? weights[p] : 0;
    }

    private void tell(int p, int strength, int sidesNow, int coldNow) {
      values[Reader.PERSON] = p;
      values[Reader.SIDE] = sidesNow >> p & 1;
      values[Reader.STRENGTH] = strength;
      values[Reader.WEIGHT] = weightOf(p);
      values[Reader.ROD] = rods >> p & 1;
      values[Reader.COLD] = coldNow;
    }

    /** How strong a person of a strength is behind an hour with a set. */
    int tiredTo(int p, int strength, int sidesNow, int coldNow, int set) {
      if (p < 0 || p >= PERSONS) {
        return 0;
      }
      int held = set >> p & 1;
      if (tires.size == 0) {
        boolean rod = (rods >> p & 1) == 1;
        int plain = held == 1 ? strength - 1 : strength + 1;
        return rod ? strength : clamped(plain, 0, STRONGEST);
      }
      tell(p, strength, sidesNow, coldNow);
      int own = ofSide(sidesNow, sidesNow >> p & 1);
      values[Reader.HELD] = held;
      values[Reader.MATES] = Integer.bitCount(set & own & ~(1 << p));
      values[Reader.OTHERS] = Integer.bitCount(set & ~own);
      return clamped(tires.worked(values, stack), 0, STRONGEST);
    }

    boolean counting(int p, int strength, int sidesNow, int coldNow) {
      if (counts.size == 0 || p < 0 || p >= PERSONS) {
        return true;
      }
      tell(p, strength, sidesNow, coldNow);
      return counts.worked(values, stack) != 0;
    }

    /** How many hands of a side count in an hour with a set. */
    int hands(Moment moment, int set, int side) {
      int own = set & ofSide(moment.sides, side);
      int found = 0;
      for (int p = 0; p < people; p = p + 1) {
        boolean held = (own >> p & 1) == 1;
        if (held && counting(p, moment.strengthOf(p), moment.sides, moment.cold)) {
          found = found + 1;
        }
      }
      return found;
    }

    int standing(Moment moment, int set) {
      int first = hands(moment, set, 0) >= must ? 1 : 0;
      int second = hands(moment, set, 1) >= must ? 2 : 0;
      return first | second;
    }

    /** The strengths of all, as one number, behind an hour with a set in some cold. */
    int codeAfter(Moment moment, int set, int coldThen) {
      int code = 0;
      for (int p = 0; p < people && p < PERSONS; p = p + 1) {
        code = code + POWER[p] * tiredTo(p, moment.strengths[p], moment.sides, coldThen, set);
      }
      return code;
    }

    /**
     * An hour with a set, if all of it can hold. Nobody tires by the strength of another one: so
     * one after the other is the same as all at once.
     */
    boolean tire(Moment moment, int set) {
      if ((set & ~moment.able()) != 0) {
        return false;
      }
      int[] strengths = moment.strengths;
      for (int p = 0; p < people && p < PERSONS; p = p + 1) {
        strengths[p] = tiredTo(p, strengths[p], moment.sides, moment.cold, set);
      }
      moment.hours = moment.hours + 1;
      return true;
    }
  }

  /** What deeds change, and undoing brings back. */
  private static final class Moment {
    int sides;
    int cold;
    int hours;
    /** 0 for those who aren't there. */
    final int[] strengths = new int[PERSONS];

    void begin(Hall house) {
      sides = house.sides;
      cold = house.cold;
      hours = 0;
      for (int p = 0; p < PERSONS; p = p + 1) {
        strengths[p] = p < house.people ? house.strengths[p] : 0;
      }
    }

    void copy(Moment other) {
      sides = other.sides;
      cold = other.cold;
      hours = other.hours;
      System.arraycopy(other.strengths, 0, strengths, 0, PERSONS);
    }

    int strengthOf(int p) {
      return p >= 0 && p < PERSONS ? strengths[p] : 0;
    }

    int together() {
      int sum = 0;
      for (int p = 0; p < PERSONS; p = p + 1) {
        sum = sum + strengths[p];
      }
      return sum;
    }

    int able() {
      int found = 0;
      for (int p = 0; p < PERSONS; p = p + 1) {
        if (strengths[p] > 0) {
          found = found | 1 << p;
        }
      }
      return found;
    }

    /** The strengths of some, as one number, all others being 0. */
    int code(int who) {
      int code = 0;
      for (int p = 0; p < PERSONS; p = p + 1) {
        if ((who >> p & 1) == 1) {
          code = code + POWER[p] * strengths[p];
        }
      }
      return code;
    }
  }

  /** Reads a text into a hall, up to its first fault. */
  private static final class Reader {
    static final String WORDS = "person side strength weight rod cold held mates others hall must tires counts if then else end and or not ";
    static final String SIGNS = ";:+-*()[]=<>";
    static final int PERSON = 0;
    static final int SIDE = 1;
    static final int STRENGTH = 2;
    static final int WEIGHT = 3;
    static final int ROD = 4;
    static final int COLD = 5;
    static final int HELD = 6;
    static final int MATES = 7;
    static final int OTHERS = 8;
    /** The words before this one stand for values in laws. */
    static final int VARIABLES = 9;
    static final int HALL = 9;
    static final int MUST = 10;
    static final int TIRES = 11;
    static final int COUNTS = 12;
    static final int IF = 13;
    static final int THEN = 14;
    static final int ELSE = 15;
    static final int END = 16;
    static final int AND = 17;
    static final int OR = 18;
    static final int NOT = 19;
    static final int UNKNOWN = 20;
    static final int NUMBER = 21;
    static final int OVER = 22;
    /** Behind a fault no token is anything else, so that all reading ends. */
    static final int BAD = 23;
    /** A sign's token is its letter's number above this. */
    static final int SIGN = 100;
    static final int NO_TOKEN = 1;
    static final int MISPLACED = 2;
    static final int OUT_OF_BOUNDS = 3;
    static final int TOO_MUCH = 4;
    static final int DEEPEST = 6;

    int fault;
    int faultPlace = NONE;
    private byte[] text = new byte[0];
    private int length;
    /** The tokens of a text, where each begins, and of numbers which; one more for the end. */
    private final int[] tokens = new int[TAPE_ROOM + 1];
    private final int[] starts = new int[TAPE_ROOM + 1];
    private final int[] values = new int[TAPE_ROOM + 1];
    private int at;
    private int token;
    private Law law;
    private boolean inTires;

    void read(byte[] tape, int n, Hall into) {
      cut(tape, n);
      fault = 0;
      faultPlace = NONE;
      at = 0;
      token = tokens[0];
      into.clear();
      word(HALL);
      word(MUST);
      into.must = number(PERSONS);
      sign(';');
      into.lines = 1;
      for (int i = 0; i < MANY && fault == 0 && token != OVER; i = i + 1) {
        line(into);
        sign(';');
        into.lines = into.lines + 1;
      }
    }

    /** Cuts a text into tokens, up to its end or to where none begins. */
    private void cut(byte[] tape, int n) {
      text = tape;
      length = Math.min(n, tape.length);
      int place = pastBlanks(0);
      int last = PERSON;
      for (int i = 0; i < tokens.length && last != OVER && last != BAD; i = i + 1) {
        int end = endFrom(place);
        last = tokenOf(place, end);
        tokens[i] = last;
        starts[i] = place;
        values[i] = last == NUMBER ? valueOf(place, end) : 0;
        place = pastBlanks(end);
      }
    }

    private int letterAt(int i) {
      return i >= 0 && i < length && i < text.length ? text[i] & 255 : NONE;
    }

    private int pastBlanks(int place) {
      int i = place;
      while (i < length && (letterAt(i) == 10 || letterAt(i) == 32)) {
        i = i + 1;
      }
      return i;
    }

    private static boolean isSmall(int letter) {
      return letter >= 'a' && letter <= 'z';
    }

    private static boolean isDigit(int letter) {
      return letter >= '0' && letter <= '9';
    }

    /** Where the token that begins at a place ends: words and numbers go on as long as they can. */
    private int endFrom(int place) {
      boolean small = isSmall(letterAt(place));
      boolean digit = isDigit(letterAt(place));
      int i = place + 1;
      while (i < length && (small && isSmall(letterAt(i)) || digit && isDigit(letterAt(i)))) {
        i = i + 1;
      }
      return i;
    }

    private int tokenOf(int place, int end) {
      int letter = letterAt(place);
      if (letter == NONE) {
        return OVER;
      }
      if (isSmall(letter)) {
        return wordOf(place, end);
      }
      if (isDigit(letter)) {
        return end - place > 3 ? BAD : NUMBER;
      }
      return SIGNS.indexOf((char) letter) >= 0 ? SIGN + letter : BAD;
    }

    private int wordOf(int place, int end) {
      int index = 0;
      int i = place;
      boolean same = true;
      for (int k = 0; k < WORDS.length(); k = k + 1) {
        char letter = WORDS.charAt(k);
        if (letter != ' ') {
          same = same && i < end && letterAt(i) == letter;
          i = i + 1;
        } else if (same && i == end) {
          return index;
        } else {
          index = index + 1;
          i = place;
          same = true;
        }
      }
      return UNKNOWN;
    }

    private int valueOf(int place, int end) {
      int value = 0;
      for (int i = place; i < end; i = i + 1) {
        value = 10 * value + letterAt(i) - '0';
      }
      return value;
    }

    /** At a place where no token begins that is the fault, whatever was wanted there. */
    private void refuse(int kind) {
      if (fault == 0) {
        fault = token == BAD ? NO_TOKEN : kind;
        faultPlace = starts[at];
      }
      token = BAD;
    }

    private void next() {
      if (fault == 0 && at + 1 < tokens.length) {
        at = at + 1;
        token = tokens[at];
      }
    }

    private void word(int wanted) {
      if (token == wanted) {
        next();
      } else {
        refuse(MISPLACED);
      }
    }

    private void sign(char wanted) {
      word(SIGN + wanted);
    }

    private int number(int most) {
      if (token != NUMBER) {
        refuse(MISPLACED);
        return 0;
      }
      int told = values[at];
      if (told > most) {
        refuse(OUT_OF_BOUNDS);
        return 0;
      }
      next();
      return told;
    }

    private void line(Hall into) {
      if (token == PERSON) {
        personLine(into);
      } else if (token == COLD) {
        next();
        into.cold = number(COLDEST);
      } else if (token == TIRES) {
        next();
        sign(':');
        lawInto(into.tires, true);
        sum(0);
      } else if (token == COUNTS) {
        next();
        sign(':');
        lawInto(into.counts, false);
        truth(0);
      } else {
        refuse(MISPLACED);
      }
    }

    private void lawInto(Law into, boolean tiring) {
      law = into;
      law.size = 0;
      inTires = tiring;
    }

    private void personLine(Hall into) {
      int p = into.people;
      if (p >= PERSONS) {
        refuse(TOO_MUCH);
        return;
      }
      next();
      word(SIDE);
      into.sides = into.sides | number(1) << p;
      into.strengths[p] = STRONGEST;
      into.weights[p] = 1;
      into.people = p + 1;
      for (int i = 0; i < MANY && token >= STRENGTH && token <= ROD; i = i + 1) {
        flag(into, p);
      }
    }

    private void flag(Hall into, int p) {
      int told = token;
      next();
      if (told == STRENGTH) {
        into.strengths[p] = number(STRONGEST);
      } else if (told == WEIGHT) {
        into.weights[p] = number(9);
      } else {
        into.rods = into.rods | 1 << p;
      }
    }

    private void put(int step) {
      if (law != null) {
        law.put(step);
      }
    }

    /** Whether one more of not, [, (, if may stand within as many as are open. */
    private boolean deeper(int depth) {
      if (depth >= DEEPEST) {
        refuse(TOO_MUCH);
        return false;
      }
      next();
      return true;
    }

    private void sum(int depth) {
      term(depth);
      for (int i = 0; i < MANY && (token == SIGN + '+' || token == SIGN + '-'); i = i + 1) {
        int step = token == SIGN + '+' ? Law.PLUS : Law.MINUS;
        next();
        term(depth);
        put(step);
      }
    }

    private void term(int depth) {
      atom(depth);
      for (int i = 0; i < MANY && token == SIGN + '*'; i = i + 1) {
        next();
        atom(depth);
        put(Law.TIMES);
      }
    }

    private void atom(int depth) {
      if (token == NUMBER) {
        put(values[at]);
        next();
      } else if (token < HELD || token < VARIABLES && inTires) {
        put(Law.VARIABLE + token);
        next();
      } else if (token == SIGN + '(') {
        if (deeper(depth)) {
          sum(depth + 1);
          sign(')');
        }
      } else if (token == IF) {
        if (deeper(depth)) {
          choice(depth + 1);
        }
      } else {
        refuse(MISPLACED);
      }
    }

    private void choice(int depth) {
      truth(depth);
      word(THEN);
      sum(depth);
      word(ELSE);
      sum(depth);
      word(END);
      put(Law.CHOOSE);
    }

    private void truth(int depth) {
      both(depth);
      for (int i = 0; i < MANY && token == OR; i = i + 1) {
        next();
        both(depth);
        put(Law.OR);
      }
    }

    private void both(int depth) {
      unit(depth);
      for (int i = 0; i < MANY && token == AND; i = i + 1) {
        next();
        unit(depth);
        put(Law.AND);
      }
    }

    private void unit(int depth) {
      if (token == NOT) {
        if (deeper(depth)) {
          unit(depth + 1);
          put(Law.NOT);
        }
      } else if (token == SIGN + '[') {
        if (deeper(depth)) {
          truth(depth + 1);
          sign(']');
        }
      } else {
        comparison(depth);
      }
    }

    private void comparison(int depth) {
      sum(depth);
      int step = Law.EQUAL;
      if (token == SIGN + '<') {
        step = Law.LESS;
      } else if (token == SIGN + '>') {
        step = Law.MORE;
      } else if (token != SIGN + '=') {
        refuse(MISPLACED);
        return;
      }
      next();
      sum(depth);
      put(step);
    }
  }

  /** Numbers of a sort. */
  private static final class Tray {
    /** NONE: it is missing. */
    int size = NONE;
    private int sort;
    private final long[] told = new long[TRAY_ROOM];

    void begin(int sortThen, int n) {
      sort = sortThen;
      size = Math.min(n, TRAY_ROOM);
      Arrays.fill(told, 0L);
    }

    long at(int i) {
      return i >= 0 && i < TRAY_ROOM ? told[i] : 0;
    }

    void put(int i, long v) {
      if (i >= 0 && i < size) {
        told[i] = cut(v);
      }
    }

    private long cut(long v) {
      switch (sort) {
        case 0: return (byte) v;
        case 1: return (short) v;
        case 2: return (int) v;
        default: return v;
      }
    }

    boolean within(int least, int greatest) {
      for (int i = 0; i < size; i = i + 1) {
        if (told[i] < least || told[i] > greatest) {
          return false;
        }
      }
      return true;
    }
  }

  /**
   * What an hour with each set makes of each state of strengths, sides and cold being as they are.
   * Nobody tires by the strength of another one: so what comes of the first three people and of
   * the others is laid out apart, and a step is the sum of two places.
   */
  private static final class Steps {
    static final int LOW = 3;
    static final int LOW_CODES = 125;
    static final int HIGH_CODES = 25;

    boolean stale = true;
    int people;
    int sets;
    int must;
    /** Whose strengths are told. */
    int who;
    /** Who belongs to side 0 and to side 1. */
    final int[] own = new int[2];
    /** Of the state one stands at: who can hold, whose hand would count. */
    int able;
    int counting;
    private int lowRow;
    private int highRow;
    private int sides;
    private int cold;
    private final int[] part = new int[PERSONS * STRENGTHS * SETS];
    private final boolean[] counts = new boolean[PERSONS * STRENGTHS];
    private final int[] low = new int[LOW_CODES * SETS];
    private final int[] high = new int[HIGH_CODES * SETS];
    private final int[] lowAble = new int[LOW_CODES];
    private final int[] lowCounting = new int[LOW_CODES];
    private final int[] highAble = new int[HIGH_CODES];
    private final int[] highCounting = new int[HIGH_CODES];

    /** Makes ready for states in which only the strengths of some are told, all others being 0. */
    void aim(Hall house, Moment moment, int whoThen) {
      boolean changed = stale || sides != moment.sides || cold != moment.cold;
      if (changed) {
        stale = false;
        sides = moment.sides;
        cold = moment.cold;
        people = house.people;
        sets = 1 << people;
        must = house.must;
        own[0] = house.ofSide(sides, 0);
        own[1] = house.ofSide(sides, 1);
        fillParts(house);
      }
      if (changed || who != whoThen) {
        who = whoThen;
        layOut(0, LOW, low, lowAble, lowCounting);
        layOut(LOW, PERSONS, high, highAble, highCounting);
      }
    }

    private void fillParts(Hall house) {
      for (int p = 0; p < people; p = p + 1) {
        for (int strength = 0; strength < STRENGTHS; strength = strength + 1) {
          int row = p * STRENGTHS + strength;
          counts[row] = house.counting(p, strength, sides, cold);
          for (int set = 0; set < sets; set = set + 1) {
            boolean cant = strength == 0 && (set >> p & 1) == 1;
            part[row * SETS + set] = cant ? 0 : house.tiredTo(p, strength, sides, cold, set);
          }
        }
      }
    }

    private void layOut(int first, int end, int[] table, int[] ableRows, int[] countingRows) {
      int last = Math.min(end, people);
      int codes = last > first ? POWER[last - first] : 1;
      for (int code = 0; code < codes && code < ableRows.length; code = code + 1) {
        ableRows[code] = 0;
        countingRows[code] = 0;
        Arrays.fill(table, code * SETS, code * SETS + SETS, 0);
        int rest = code;
        for (int p = first; p < last; p = p + 1) {
          int strength = rest % STRENGTHS;
          rest = rest / STRENGTHS;
          if ((who >> p & 1) == 1) {
            int row = p * STRENGTHS + strength;
            ableRows[code] = ableRows[code] | (strength > 0 ? 1 << p : 0);
            countingRows[code] = countingRows[code] | (counts[row] ? 1 << p : 0);
            addParts(table, code * SETS, row * SETS, POWER[p]);
          }
        }
      }
    }

    private void addParts(int[] table, int into, int from, int power) {
      for (int set = 0; set < sets; set = set + 1) {
        table[into + set] = table[into + set] + part[from + set] * power;
      }
    }

    void standAt(int state) {
      int lowCode = state >= 0 ? state % LOW_CODES : 0;
      int highCode = state >= 0 ? state / LOW_CODES % HIGH_CODES : 0;
      able = lowAble[lowCode] | highAble[highCode];
      counting = lowCounting[lowCode] | highCounting[highCode];
      lowRow = lowCode * SETS;
      highRow = highCode * SETS;
    }

    int to(int set) {
      int column = set & SETS - 1;
      return low[lowRow + column] + high[highRow + column];
    }

    int hands(int set) {
      return Integer.bitCount(set & counting);
    }

    boolean stand(int set, int side) {
      return Integer.bitCount(set & counting & own[side & 1]) >= must;
    }

    static int strengthIn(int state, int p) {
      return p >= 0 && p < PERSONS ? state / POWER[p] % STRENGTHS : 0;
    }
  }

  /** How long enough hands can be held, from each state that can come. */
  private static final class Watch {
    static final int UNSEEN = 0;
    static final int OPEN = 1;
    static final int CLOSED = 2;

    private final int[] mark = new int[STATES];
    /** NONE: for ever. */
    private final int[] hours = new int[STATES];
    private final int[] pick = new int[STATES];
    private final int[] path = new int[STATES];
    private final int[] turn = new int[STATES];
    private int depth;
    private int begin;

    /** The most hours that some can hold so many hands; NONE: for ever. */
    int longest(Steps steps, int start, int must, int allowed) {
      Arrays.fill(mark, UNSEEN);
      begin = start;
      depth = 0;
      open(start);
      for (int i = 0; i < MANY && depth > 0; i = i + 1) {
        goOn(steps, must, allowed);
      }
      return inStates(start) ? hours[start] : 0;
    }

    private static boolean inStates(int state) {
      return state >= 0 && state < STATES;
    }

    private void open(int state) {
      if (inStates(state) && depth < STATES) {
        mark[state] = OPEN;
        hours[state] = 0;
        pick[state] = NONE;
        path[depth] = state;
        turn[depth] = 0;
        depth = depth + 1;
      }
    }

    private void goOn(Steps steps, int must, int allowed) {
      int state = path[depth - 1];
      int set = turn[depth - 1];
      if (set == NONE) {
        mark[state] = CLOSED;
        depth = depth - 1;
        return;
      }
      steps.standAt(state);
      int after = nextWithin(set, steps.able & allowed);
      int follower = steps.to(set);
      boolean holds = steps.hands(set) >= must && inStates(follower);
      if (holds && mark[follower] == UNSEEN) {
        open(follower);
        return;
      }
      turn[depth - 1] = after == 0 ? NONE : after;
      if (holds) {
        weigh(state, set, follower);
      }
    }

    /** A follower that is still open can be come to again and again: that is for ever. */
    private void weigh(int state, int set, int follower) {
      if (mark[follower] == OPEN || hours[follower] == NONE) {
        hours[state] = NONE;
        pick[state] = set;
        turn[depth - 1] = NONE;
      } else if (hours[follower] + 1 > hours[state]) {
        hours[state] = hours[follower] + 1;
        pick[state] = set;
      }
    }

    int setAt(Steps steps, int i) {
      int state = begin;
      int set = pickAt(state);
      for (int hour = 0; hour < i && set != NONE; hour = hour + 1) {
        steps.standAt(state);
        state = steps.to(set);
        set = pickAt(state);
      }
      return set;
    }

    private int pickAt(int state) {
      return inStates(state) ? pick[state] : NONE;
    }

    int listInto(Steps steps, Tray tray) {
      int state = begin;
      for (int i = 0; i < tray.size; i = i + 1) {
        int set = pickAt(state);
        if (set == NONE) {
          return i;
        }
        tray.put(i, set);
        steps.standAt(state);
        state = steps.to(set);
      }
      return tray.size;
    }
  }

  /** The states that can come, the nearest first, of like ones by the first sets. */
  private static final class Walk {
    final int[] order = new int[STATES];
    int size;
    private final int[] far = new int[STATES];
    private final int[] came = new int[STATES];
    private int goal;

    /** Till one comes in which all have a strength; with both: only hours in which both stand. */
    void spread(Steps steps, int start, int strength, boolean both) {
      Arrays.fill(far, NONE);
      size = 0;
      goal = NONE;
      reach(start, 0, 0);
      for (int i = 0; i < size && i < STATES; i = i + 1) {
        int state = order[i];
        if (strength != NONE && allHave(state, strength, steps.people)) {
          goal = state;
          return;
        }
        steps.standAt(state);
        spreadFrom(steps, state, both);
      }
    }

    private void spreadFrom(Steps steps, int state, boolean both) {
      for (int set = 0; set < steps.sets; set = set + 1) {
        boolean can = (set & ~steps.able) == 0;
        if (can && (!both || steps.stand(set, 0) && steps.stand(set, 1))) {
          reach(steps.to(set), far[state] + 1, state * SETS + set);
        }
      }
    }

    private void reach(int state, int hours, int way) {
      if (state >= 0 && state < STATES && size < STATES && far[state] == NONE) {
        far[state] = hours;
        came[state] = way;
        order[size] = state;
        size = size + 1;
      }
    }

    private static boolean allHave(int state, int strength, int people) {
      for (int p = 0; p < people; p = p + 1) {
        if (Steps.strengthIn(state, p) < strength) {
          return false;
        }
      }
      return true;
    }

    int hoursToGoal() {
      return goal >= 0 && goal < STATES ? far[goal] : NONE;
    }

    int setAt(int i) {
      int hours = hoursToGoal();
      if (i >= hours || i < 0) {
        return NONE;
      }
      int state = goal;
      for (int hour = hours - 1; hour > i; hour = hour - 1) {
        state = came[state] / SETS;
      }
      return came[state] % SETS;
    }
  }

  /** Who loses alone, and in how many hours, if both do their best: worked out from the ends. */
  private static final class Duel {
    static final int LOST = -1;
    static final int DRAWN = 0;
    static final int WON = 1;
    static final int NEVER = MANY;

    private final int[] result = new int[STATES];
    private final int[] hours = new int[STATES];
    private int start;
    private int best;

    void fight(Steps steps, Walk walk, int from) {
      start = from >= 0 && from < STATES ? from : 0;
      Arrays.fill(result, DRAWN);
      boolean found = true;
      for (int round = 1; round <= STATES && found && result[start] == DRAWN; round = round + 1) {
        found = settleRound(steps, walk, round);
      }
      best = firstBest(steps);
    }

    int resultNow() {
      return result[start];
    }

    int hoursLeft() {
      return result[start] == DRAWN ? NONE : hours[start];
    }

    int bestSet() {
      return best;
    }

    private boolean settleRound(Steps steps, Walk walk, int round) {
      boolean found = false;
      for (int i = 0; i < walk.size; i = i + 1) {
        int state = walk.order[i];
        if (result[state] == DRAWN) {
          steps.standAt(state);
          int settled = settled(steps, round);
          if (settled != DRAWN) {
            result[state] = settled;
            hours[state] = round;
            found = true;
          }
        }
      }
      return found;
    }

    /** What the state that steps stand at comes to in so many hours at most. */
    private int settled(Steps steps, int round) {
      int mine = steps.able & steps.own[0];
      boolean lost = true;
      int set = 0;
      for (int i = 0; i < SETS; i = i + 1) {
        if (wonIn(steps, set) <= round) {
          return WON;
        }
        lost = lost && lostIn(steps, set) <= round;
        set = nextWithin(set, mine);
        if (set == 0) {
          break;
        }
      }
      return lost ? LOST : DRAWN;
    }

    /** In how many hours side 1 loses alone, if side 0 tells a set, whatever side 1 tells. */
    private int wonIn(Steps steps, int set) {
      if (!steps.stand(set, 0)) {
        return NEVER;
      }
      int theirs = steps.able & steps.own[1];
      int latest = 1;
      int answer = 0;
      for (int i = 0; i < SETS; i = i + 1) {
        if (steps.stand(answer, 1)) {
          int then = inOrZero(steps.to(set | answer));
          if (result[then] != WON) {
            return NEVER;
          }
          latest = Math.max(latest, hours[then] + 1);
        }
        answer = nextWithin(answer, theirs);
        if (answer == 0) {
          break;
        }
      }
      return latest;
    }

    /** In how many hours side 0 loses alone, if it tells a set and side 1 its best answer. */
    private int lostIn(Steps steps, int set) {
      boolean standing = steps.stand(set, 0);
      int theirs = steps.able & steps.own[1];
      int soonest = NEVER;
      int answer = 0;
      for (int i = 0; i < SETS; i = i + 1) {
        if (steps.stand(answer, 1)) {
          int then = inOrZero(steps.to(set | answer));
          if (!standing) {
            return 1;
          }
          if (result[then] == LOST) {
            soonest = Math.min(soonest, hours[then] + 1);
          }
        }
        answer = nextWithin(answer, theirs);
        if (answer == 0) {
          break;
        }
      }
      return soonest;
    }

    private static int inOrZero(int state) {
      return state >= 0 && state < STATES ? state : 0;
    }

    private int firstBest(Steps steps) {
      steps.standAt(start);
      int mine = steps.able & steps.own[0];
      int set = 0;
      for (int i = 0; i < SETS; i = i + 1) {
        if (isBest(steps, set)) {
          return set;
        }
        set = nextWithin(set, mine);
      }
      return 0;
    }

    private boolean isBest(Steps steps, int set) {
      if (result[start] == WON) {
        return wonIn(steps, set) == hours[start];
      }
      if (result[start] == LOST) {
        return lostIn(steps, set) == hours[start];
      }
      return lostIn(steps, set) == NEVER;
    }
  }

  /** States that rows have come to, the first by sets first, and by how many rows each. */
  private static final class Front {
    final int[] states = new int[STATES];
    int size;
    final long[] ways = new long[STATES];
    /** Who held in all the rows that came here. */
    final int[] held = new int[STATES];

    void clear() {
      for (int i = 0; i < size; i = i + 1) {
        ways[states[i]] = 0;
      }
      size = 0;
    }

    /** Whether no row had come here. */
    boolean add(int state, long more, int mask) {
      if (state < 0 || state >= STATES) {
        return false;
      }
      boolean fresh = ways[state] == 0;
      if (fresh && size < STATES) {
        states[size] = state;
        size = size + 1;
        held[state] = mask;
      }
      ways[state] = ways[state] + more;
      held[state] = held[state] & mask;
      return fresh;
    }
  }

  /** Rows of sets, followed hour by hour, all at once. */
  private static final class Rows {
    static final int MOST_SEEN = 8;

    /** What hours would bring in each of the ten colds. */
    final int[] codes = new int[COLDEST + 1];
    private Front front = new Front();
    private Front after = new Front();
    private final int[] came = new int[MOST_SEEN * STATES];
    private int hours;

    private void begin(int start) {
      front.clear();
      after.clear();
      front.add(start, 1, 0);
    }

    private void turnOver() {
      Front gone = front;
      front = after;
      after = gone;
      after.clear();
    }

    /** In how many ways so many hands can be held for just so many hours. */
    long inHours(Steps steps, int start, int n, int must) {
      begin(start);
      for (int hour = 0; hour < n; hour = hour + 1) {
        for (int i = 0; i < front.size; i = i + 1) {
          int state = front.states[i];
          steps.standAt(state);
          for (int set = 0; set < steps.sets; set = set + 1) {
            if ((set & ~steps.able) == 0 && steps.hands(set) >= must) {
              after.add(steps.to(set), front.ways[state], 0);
            }
          }
        }
        turnOver();
      }
      return total();
    }

    long total() {
      long sum = 0;
      for (int i = 0; i < front.size; i = i + 1) {
        sum = sum + front.ways[front.states[i]];
      }
      return sum;
    }

    /** Follows all rows with so many hands as a tray tells. */
    void look(Steps steps, int start, Tray told) {
      begin(start);
      hours = Math.min(told.size, MOST_SEEN);
      for (int hour = 0; hour < hours; hour = hour + 1) {
        for (int i = 0; i < front.size; i = i + 1) {
          steps.standAt(front.states[i]);
          lookFrom(steps, front.states[i], hour, told.at(hour));
        }
        turnOver();
      }
    }

    private void lookFrom(Steps steps, int state, int hour, long hands) {
      for (int set = 0; set < steps.sets; set = set + 1) {
        boolean can = (set & ~steps.able) == 0;
        if (can && (hands == NONE || Integer.bitCount(set) == hands)) {
          int then = steps.to(set);
          if (after.add(then, front.ways[state], front.held[state] | set)) {
            came[hour * STATES + then] = state * SETS + set;
          }
        }
      }
    }

    /** Who held in an hour of the first of the rows looked at. */
    int setAt(int i) {
      if (front.size == 0 || i < 0 || i >= hours) {
        return NONE;
      }
      int state = front.states[0];
      for (int hour = hours - 1; hour > i; hour = hour - 1) {
        state = came[hour * STATES + state] / SETS;
      }
      return came[i * STATES + state] % SETS;
    }

    int heldInAll() {
      if (front.size == 0) {
        return 0;
      }
      int held = SETS - 1;
      for (int i = 0; i < front.size; i = i + 1) {
        held = held & front.held[front.states[i]];
      }
      return held;
    }

    /** Follows all draws of lots while some hold so many hands: how many draws there are. */
    long fall(Steps steps, int start, Tray told, int own, int must) {
      begin(start);
      long draws = 1;
      for (int hour = 0; hour < told.size; hour = hour + 1) {
        for (int i = 0; i < front.size; i = i + 1) {
          int state = front.states[i];
          steps.standAt(state);
          int set = (int) told.at(hour) & steps.able;
          if (steps.hands(set & own) >= must) {
            drawFrom(steps, steps.to(set), front.ways[state]);
          }
        }
        turnOver();
        draws = draws * LOTS;
      }
      return draws;
    }

    private void drawFrom(Steps steps, int state, long ways) {
      after.add(state, ways * (LOTS - steps.people), 0);
      for (int p = 0; p < steps.people && p < PERSONS; p = p + 1) {
        after.add(state - Steps.strengthIn(state, p) * POWER[p], ways, 0);
      }
    }

    long strengthsInAll() {
      long sum = 0;
      for (int i = 0; i < front.size; i = i + 1) {
        int state = front.states[i];
        int together = 0;
        for (int p = 0; p < PERSONS; p = p + 1) {
          together = together + Steps.strengthIn(state, p);
        }
        sum = sum + together * front.ways[state];
      }
      return sum;
    }
  }
}
