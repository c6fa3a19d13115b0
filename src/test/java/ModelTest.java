import java.math.BigInteger;
import java.util.ArrayDeque;
import java.util.ArrayList;
import java.util.Arrays;
import java.util.Deque;
import java.util.HashMap;
import java.util.HashSet;
import java.util.LinkedHashSet;
import java.util.List;
import java.util.Map;
import java.util.Random;
import java.util.Set;

/**
 * Random runs of calls, each answered by the class and by a plain model that works in other ways:
 * texts cut into tokens first, laws as trees, rosters by rounds over all states, holding out by
 * horizons, rows by counting from the end.
 */
public final class ModelTest {
  private static int wrong = 0;
  private static int calls = 0;

  public static void main(String[] args) {
    int runs = args.length > 0 ? Integer.parseInt(args[0]) : 400;
    long seed = args.length > 1 ? Long.parseLong(args[1]) : 1;
    int most = args.length > 2 ? Integer.parseInt(args[2]) : 0;
    for (int run = 0; run < runs && wrong < 20; run++) {
      int people = most > 0 ? most : run % 40 == 39 ? 5 : run % 10 == 9 ? 4 : 3;
      new Run(seed * 1000003L + run, people).go();
    }
    faults(new Random(seed + 77), runs * 5);
    System.out.println(calls + " calls, " + wrong + " wrong");
    if (wrong > 0) {
      System.exit(1);
    }
  }

  static void due(List<String> log, String call, long got, long want) {
    calls++;
    log.add(call + " = " + want);
    if (got != want) {
      wrong++;
      System.out.println("--- a run:");
      for (String row : log) {
        System.out.println("  " + row);
      }
      System.out.println(call + " answered " + got + ", due is " + want);
    }
  }

  /** Texts with something struck out, doubled or put in. */
  static void faults(Random random, int times) {
    for (int i = 0; i < times && wrong < 20; i++) {
      Writer writer = new Writer(random, 6);
      StringBuilder text = new StringBuilder(writer.hall());
      int edits = random.nextInt(4);
      for (int e = 0; e < edits && text.length() > 0; e++) {
        int at = random.nextInt(text.length());
        switch (random.nextInt(4)) {
          case 0: text.deleteCharAt(at); break;
          case 1: text.insert(at, text.charAt(random.nextInt(text.length()))); break;
          case 2: text.insert(at, " " + writer.anyToken() + " "); break;
          default: text.setLength(at); break;
        }
      }
      if (text.length() > 900) {
        text.setLength(900);
      }
      HandsHeld x = new HandsHeld();
      Parser parser = new Parser(text.toString());
      List<String> log = new ArrayList<>();
      Bounds.feed(x, text.toString());
      int want = parser.fault == 0 ? parser.house.lines : -30 - parser.fault;
      due(log, "hall of: " + text, x.hall(text.length()), want);
      due(log, "fault(0)", x.fault(0), parser.fault);
      due(log, "fault(1)", x.fault(1), parser.place);
    }
  }

  /** Makes texts of halls. */
  static final class Writer {
    final Random random;
    final int people;

    Writer(Random random, int people) {
      this.random = random;
      this.people = people;
    }

    String anyToken() {
      String[] all = {"person", "side", "strength", "weight", "rod", "cold", "held", "mates",
          "others", "hall", "must", "tires", "counts", "if", "then", "else", "end", "and", "or",
          "not", ";", ":", "+", "-", "*", "(", ")", "[", "]", "=", "<", ">", "7", "12", "999",
          "1000", "0001", "xy", "A", "\t", "0", "not not", "((", "[["};
      return all[random.nextInt(all.length)];
    }

    String hall() {
      for (int i = 0; i < 100; i++) {
        String text = tryHall();
        if (text.length() <= 860) {
          return text;
        }
      }
      return "hall must 1 ;";
    }

    private String tryHall() {
      StringBuilder text = new StringBuilder();
      int must = random.nextInt(8) == 0 ? random.nextInt(6) : random.nextInt(3);
      text.append("hall must ").append(must).append(gap()).append(";");
      int n = random.nextInt(4) == 0 ? random.nextInt(people + 1) : people;
      List<String> lines = new ArrayList<>();
      for (int p = 0; p < n; p++) {
        lines.add(personLine());
      }
      int others = random.nextInt(4);
      for (int i = 0; i < others; i++) {
        String line = random.nextInt(4) == 0 ? "cold " + random.nextInt(10)
            : random.nextInt(2) == 0 ? "counts" + gap() + ":" + gap() + truth(0, 2)
            : "tires" + gap() + ":" + gap() + tires();
        lines.add(random.nextInt(lines.size() + 1), line);
      }
      for (String line : lines) {
        text.append(gap()).append(line).append(gap()).append(";");
      }
      return text.append(gap()).toString();
    }

    private String personLine() {
      StringBuilder text = new StringBuilder("person side ").append(random.nextInt(2));
      int flags = random.nextInt(4);
      for (int i = 0; i < flags; i++) {
        switch (random.nextInt(5)) {
          case 0: text.append(" rod"); break;
          case 1: text.append(" weight ").append(random.nextInt(10)); break;
          default: text.append(" strength ").append(random.nextInt(5)); break;
        }
      }
      return text.toString();
    }

    private String gap() {
      return new String[] {"", " ", "\n", "  "}[random.nextInt(4)];
    }

    /** Most laws stay near the strength, so that something comes of them. */
    private String tires() {
      switch (random.nextInt(6)) {
        case 0: return "strength + 1 - held * 2";
        case 1: return "if held = 1 then strength - 1 - (cold > 4) else strength + mates end"
            .replace("(cold > 4)", "if cold > " + random.nextInt(8) + " then 1 else 0 end");
        case 2: return "if held = 1 and cold > " + random.nextInt(8)
            + " then strength - 2 + mates else strength + 1 - others end";
        case 3: return "strength - held + " + sum(true, 1, 2);
        case 4: return "if " + truth(1, 1) + " then strength + 1 else strength - held end";
        default: return sum(true, 0, 3);
      }
    }

    private String sum(boolean inTires, int depth, int size) {
      StringBuilder text = new StringBuilder(term(inTires, depth, size));
      while (size > 0 && random.nextInt(3) == 0) {
        text.append(gap()).append(random.nextBoolean() ? "+" : "-").append(gap());
        text.append(term(inTires, depth, size - 1));
      }
      return text.toString();
    }

    private String term(boolean inTires, int depth, int size) {
      StringBuilder text = new StringBuilder(atom(inTires, depth, size));
      while (size > 0 && random.nextInt(4) == 0) {
        text.append(gap()).append("*").append(gap()).append(atom(inTires, depth, size - 1));
      }
      return text.toString();
    }

    private String atom(boolean inTires, int depth, int size) {
      if (size > 0 && depth < 6 && random.nextInt(3) == 0) {
        if (random.nextBoolean()) {
          return "(" + gap() + sum(inTires, depth + 1, size - 1) + gap() + ")";
        }
        return "if " + truthOf(inTires, depth + 1, size - 1) + " then "
            + sum(inTires, depth + 1, size - 1) + " else " + sum(inTires, depth + 1, size - 1)
            + " end";
      }
      String[] words = {"person", "side", "strength", "weight", "rod", "cold", "held", "mates",
          "others"};
      if (random.nextInt(3) == 0) {
        return "" + (random.nextInt(6) == 0 ? random.nextInt(1000) : random.nextInt(5));
      }
      return words[random.nextInt(inTires ? 9 : 6)];
    }

    private String truth(int depth, int size) {
      return truthOf(false, depth, size);
    }

    private String truthOf(boolean inTires, int depth, int size) {
      StringBuilder text = new StringBuilder(unit(inTires, depth, size));
      while (size > 0 && random.nextInt(4) == 0) {
        text.append(random.nextBoolean() ? " and " : " or ");
        text.append(unit(inTires, depth, size - 1));
      }
      return text.toString();
    }

    private String unit(boolean inTires, int depth, int size) {
      if (size > 0 && depth < 6 && random.nextInt(4) == 0) {
        return random.nextBoolean() ? "not " + unit(inTires, depth + 1, size - 1)
            : "[" + truthOf(inTires, depth + 1, size - 1) + "]";
      }
      String sign = new String[] {"=", "<", ">"}[random.nextInt(3)];
      return sum(inTires, depth, size / 2) + gap() + sign + gap() + sum(inTires, depth, size / 2);
    }
  }

  /** What a law knows. */
  static final class Known {
    final Map<String, Long> values = new HashMap<>();
  }

  interface Sum {
    long of(Known known);
  }

  interface Truth {
    boolean of(Known known);
  }

  static final class House {
    int lines = 0;
    int must = 1;
    int cold = 0;
    final List<int[]> people = new ArrayList<>(); // side, strength, weight, rod
    Sum tires;
    Truth counts;
  }

  static final class Fault extends RuntimeException {
    final int kind;
    final int place;

    Fault(int kind, int place) {
      super(null, null, false, false);
      this.kind = kind;
      this.place = place;
    }
  }

  static final class Parser {
    int fault = 0;
    int place = -1;
    House house = new House();
    private final List<String> tokens = new ArrayList<>();
    private final List<Integer> places = new ArrayList<>();
    private int at = 0;
    private boolean counts;

    Parser(String text) {
      cut(text);
      try {
        parse();
      } catch (Fault f) {
        fault = f.kind;
        place = f.place;
      }
    }

    /** A token "!" is none, "" the end. */
    private void cut(String text) {
      int i = 0;
      while (i < text.length()) {
        char c = text.charAt(i);
        if (c == ' ' || c == '\n') {
          i++;
          continue;
        }
        int j = i;
        if (c >= 'a' && c <= 'z') {
          while (j < text.length() && text.charAt(j) >= 'a' && text.charAt(j) <= 'z') {
            j++;
          }
        } else if (c >= '0' && c <= '9') {
          while (j < text.length() && text.charAt(j) >= '0' && text.charAt(j) <= '9') {
            j++;
          }
          if (j - i > 3) {
            tokens.add("!");
            places.add(i);
            return;
          }
        } else if (";:+-*()[]=<>".indexOf(c) >= 0) {
          j++;
        } else {
          tokens.add("!");
          places.add(i);
          return;
        }
        tokens.add(text.substring(i, j));
        places.add(i);
        i = j;
      }
      tokens.add("");
      places.add(text.length());
    }

    private String peek() {
      String token = tokens.get(at);
      if (token.equals("!")) {
        throw new Fault(1, places.get(at));
      }
      return token;
    }

    private Fault bad(int kind) {
      peek();
      return new Fault(kind, places.get(at));
    }

    private boolean take(String token) {
      if (peek().equals(token)) {
        at++;
        return true;
      }
      return false;
    }

    private void must(String token) {
      if (!take(token)) {
        throw bad(2);
      }
    }

    private boolean atNumber() {
      return !peek().isEmpty() && Character.isDigit(peek().charAt(0));
    }

    private int number(int most) {
      if (!atNumber()) {
        throw bad(2);
      }
      int v = Integer.parseInt(peek());
      if (v > most) {
        throw bad(3);
      }
      at++;
      return v;
    }

    private void parse() {
      must("hall");
      must("must");
      house.must = number(5);
      must(";");
      house.lines++;
      while (!peek().isEmpty()) {
        if (peek().equals("person")) {
          if (house.people.size() == 5) {
            throw bad(4);
          }
          at++;
          must("side");
          int[] one = {number(1), 4, 1, 0};
          house.people.add(one);
          while (true) {
            if (take("strength")) {
              one[1] = number(4);
            } else if (take("weight")) {
              one[2] = number(9);
            } else if (take("rod")) {
              one[3] = 1;
            } else {
              break;
            }
          }
        } else if (take("cold")) {
          house.cold = number(9);
        } else if (take("tires")) {
          must(":");
          counts = false;
          house.tires = sum(0);
        } else if (take("counts")) {
          must(":");
          counts = true;
          house.counts = truth(0);
        } else {
          throw bad(2);
        }
        must(";");
        house.lines++;
      }
    }

    private static long kept(long v) {
      return v > 1000000 ? 1000000 : v < -1000000 ? -1000000 : v;
    }

    private void enter(int open) {
      if (open == 6) {
        throw bad(4);
      }
      at++;
    }

    private Sum sum(int open) {
      Sum all = term(open);
      while (peek().equals("+") || peek().equals("-")) {
        int sign = take("+") ? 1 : -1;
        if (sign < 0) {
          at++;
        }
        Sum left = all;
        Sum right = term(open);
        all = known -> kept(left.of(known) + sign * right.of(known));
      }
      return all;
    }

    private Sum term(int open) {
      Sum all = atom(open);
      while (take("*")) {
        Sum left = all;
        Sum right = atom(open);
        all = known -> kept(left.of(known) * right.of(known));
      }
      return all;
    }

    private Sum atom(int open) {
      if (atNumber()) {
        long v = number(999);
        return known -> v;
      }
      String word = peek();
      if (word.equals("(")) {
        enter(open);
        Sum inner = sum(open + 1);
        must(")");
        return inner;
      }
      if (word.equals("if")) {
        enter(open);
        Truth when = truth(open + 1);
        must("then");
        Sum one = sum(open + 1);
        must("else");
        Sum other = sum(open + 1);
        must("end");
        return known -> when.of(known) ? one.of(known) : other.of(known);
      }
      boolean plain = List.of("person", "side", "strength", "weight", "rod", "cold").contains(word);
      boolean tiring = List.of("held", "mates", "others").contains(word);
      if (plain || tiring && !counts) {
        at++;
        return known -> known.values.get(word);
      }
      throw bad(2);
    }

    private Truth truth(int open) {
      Truth all = both(open);
      while (take("or")) {
        Truth left = all;
        Truth right = both(open);
        all = known -> left.of(known) || right.of(known);
      }
      return all;
    }

    private Truth both(int open) {
      Truth all = unit(open);
      while (take("and")) {
        Truth left = all;
        Truth right = unit(open);
        all = known -> left.of(known) && right.of(known);
      }
      return all;
    }

    private Truth unit(int open) {
      if (peek().equals("not")) {
        enter(open);
        Truth inner = unit(open + 1);
        return known -> !inner.of(known);
      }
      if (peek().equals("[")) {
        enter(open);
        Truth inner = truth(open + 1);
        must("]");
        return inner;
      }
      Sum left = sum(open);
      String sign = peek();
      if (!List.of("=", "<", ">").contains(sign)) {
        throw bad(2);
      }
      at++;
      Sum right = sum(open);
      return known -> {
        long a = left.of(known);
        long b = right.of(known);
        return sign.equals("=") ? a == b : sign.equals("<") ? a < b : a > b;
      };
    }
  }

  /** What changes, as a value. */
  static final class Now {
    int[] sides = new int[0];
    List<Integer> strengths = new ArrayList<>();
    int cold;
    int hours;

    Now copy() {
      Now other = new Now();
      other.sides = sides.clone();
      other.strengths = new ArrayList<>(strengths);
      other.cold = cold;
      other.hours = hours;
      return other;
    }
  }

  /** The hall as the document tells it. */
  static final class Model {
    House house = new House();
    Now now = new Now();
    private final Map<String, Integer> tired = new HashMap<>();
    private String tiredFor = "";

    void begin(House told) {
      house = told;
      now = new Now();
      now.sides = new int[told.people.size()];
      for (int p = 0; p < told.people.size(); p++) {
        now.sides[p] = told.people.get(p)[0];
        now.strengths.add(told.people.get(p)[1]);
      }
      now.cold = told.cold;
      tired.clear();
    }

    int people() {
      return house.people.size();
    }

    private Known known(int p, int strength, int cold) {
      Known known = new Known();
      known.values.put("person", (long) p);
      known.values.put("side", (long) now.sides[p]);
      known.values.put("strength", (long) strength);
      known.values.put("weight", (long) house.people.get(p)[2]);
      known.values.put("rod", (long) house.people.get(p)[3]);
      known.values.put("cold", (long) cold);
      return known;
    }

    int tiredTo(int p, int strength, int cold, int set) {
      String now0 = Arrays.toString(now.sides);
      if (!tiredFor.equals(now0)) {
        tired.clear();
        tiredFor = now0;
      }
      String key = p + "," + strength + "," + cold + "," + set;
      Integer got = tired.get(key);
      if (got == null) {
        got = tiredToFresh(p, strength, cold, set);
        tired.put(key, got);
      }
      return got;
    }

    private int tiredToFresh(int p, int strength, int cold, int set) {
      boolean held = (set & 1 << p) != 0;
      long then;
      if (house.tires == null) {
        then = house.people.get(p)[3] == 1 ? strength : held ? strength - 1 : strength + 1;
      } else {
        Known known = known(p, strength, cold);
        long mates = 0;
        long others = 0;
        for (int q = 0; q < people(); q++) {
          if (q != p && (set & 1 << q) != 0) {
            if (now.sides[q] == now.sides[p]) {
              mates++;
            } else {
              others++;
            }
          }
        }
        known.values.put("held", held ? 1L : 0L);
        known.values.put("mates", mates);
        known.values.put("others", others);
        then = house.tires.of(known);
      }
      return (int) Math.max(0, Math.min(4, then));
    }

    boolean counts(int p, int strength) {
      return house.counts == null || house.counts.of(known(p, strength, now.cold));
    }

    List<Integer> after(List<Integer> strengths, int set, int cold) {
      List<Integer> then = new ArrayList<>();
      for (int p = 0; p < people(); p++) {
        then.add(tiredTo(p, strengths.get(p), cold, set));
      }
      return then;
    }

    List<Integer> after(List<Integer> strengths, int set) {
      return after(strengths, set, now.cold);
    }

    boolean can(List<Integer> strengths, int set) {
      if (set < 0 || set >= 1 << people()) {
        return false;
      }
      for (int p = 0; p < people(); p++) {
        if ((set & 1 << p) != 0 && strengths.get(p) == 0) {
          return false;
        }
      }
      return true;
    }

    int hands(List<Integer> strengths, int set, int side) {
      int sum = 0;
      for (int p = 0; p < people(); p++) {
        if ((set & 1 << p) != 0 && now.sides[p] == side && counts(p, strengths.get(p))) {
          sum++;
        }
      }
      return sum;
    }

    int of(int side) {
      int mask = 0;
      for (int p = 0; p < people(); p++) {
        if (now.sides[p] == side) {
          mask |= 1 << p;
        }
      }
      return mask;
    }

    /** Hours that a side can hold from each state that can come; null where for ever. */
    Map<List<Integer>, Integer> lasting(int side, int must, int banned) {
      int own = of(side) & ~banned;
      Map<List<Integer>, List<List<Integer>>> next = new HashMap<>();
      Deque<List<Integer>> open = new ArrayDeque<>();
      open.add(now.strengths);
      while (!open.isEmpty()) {
        List<Integer> s = open.poll();
        if (next.containsKey(s)) {
          continue;
        }
        List<List<Integer>> to = new ArrayList<>();
        for (int set = 0; set < 1 << people(); set++) {
          if ((set & ~own) == 0 && can(s, set) && hands(s, set, side) >= must) {
            List<Integer> t = after(s, set);
            to.add(t);
            open.add(t);
          }
        }
        next.put(s, to);
      }
      Set<List<Integer>> alive = new HashSet<>(next.keySet());
      Map<List<Integer>, Integer> hours = new HashMap<>();
      for (int k = 0;; k++) {
        Set<List<Integer>> still = new HashSet<>();
        for (List<Integer> s : alive) {
          boolean goes = false;
          for (List<Integer> t : next.get(s)) {
            goes |= alive.contains(t);
          }
          if (goes) {
            still.add(s);
          } else {
            hours.put(s, k);
          }
        }
        if (still.size() == alive.size()) {
          return hours;
        }
        alive = still;
      }
    }

    int holds(int side, int must, int banned) {
      Integer hours = lasting(side, must, banned).get(now.strengths);
      return hours == null ? -1 : hours;
    }

    List<Integer> roster(int side, int most) {
      Map<List<Integer>, Integer> hours = lasting(side, house.must, 0);
      List<Integer> sets = new ArrayList<>();
      List<Integer> s = now.strengths;
      while (sets.size() < most) {
        Integer left = hours.get(s);
        if (left != null && left == 0) {
          break;
        }
        for (int set = 0;; set++) {
          if ((set & ~of(side)) == 0 && can(s, set) && hands(s, set, side) >= house.must) {
            Integer then = hours.get(after(s, set));
            if (left == null ? then == null : then != null && then == left - 1) {
              sets.add(set);
              s = after(s, set);
              break;
            }
          }
        }
      }
      return sets;
    }

    long rosters(int side, List<Integer> s, int n, Map<String, Long> memo) {
      if (n == 0) {
        return 1;
      }
      String key = n + ":" + s;
      Long got = memo.get(key);
      if (got == null) {
        got = 0L;
        for (int set = 0; set < 1 << people(); set++) {
          if ((set & ~of(side)) == 0 && can(s, set) && hands(s, set, side) >= house.must) {
            got += rosters(side, after(s, set), n - 1, memo);
          }
        }
        memo.put(key, got);
      }
      return got;
    }

    boolean lasts(int side, int must, int banned, int n) {
      int hours = holds(side, must, banned);
      return hours == -1 || hours >= n;
    }

    int most(int side, int n) {
      int found = 0;
      for (int must = 1; must <= 5; must++) {
        if (lasts(side, must, 0, n)) {
          found = must;
        }
      }
      return found;
    }

    int needed(int side, int n) {
      if (!lasts(side, house.must, 0, n)) {
        return 0;
      }
      int found = 0;
      for (int p = 0; p < people(); p++) {
        if (now.sides[p] == side && !lasts(side, house.must, 1 << p, n)) {
          found |= 1 << p;
        }
      }
      return found;
    }

    Set<List<Integer>> reach(boolean both) {
      Set<List<Integer>> found = new LinkedHashSet<>();
      Deque<List<Integer>> open = new ArrayDeque<>();
      open.add(now.strengths);
      found.add(now.strengths);
      while (!open.isEmpty()) {
        List<Integer> s = open.poll();
        for (int set = 0; set < 1 << people(); set++) {
          if (can(s, set) && (!both || hands(s, set, 0) >= house.must
              && hands(s, set, 1) >= house.must)) {
            List<Integer> t = after(s, set);
            if (found.add(t)) {
              open.add(t);
            }
          }
        }
      }
      return found;
    }

    private boolean all(List<Integer> s, int n) {
      for (int one : s) {
        if (one < n) {
          return false;
        }
      }
      return true;
    }

    /** The row to all having n, or null. */
    List<Integer> rest(int n) {
      Map<List<Integer>, Integer> left = new HashMap<>();
      Set<List<Integer>> states = reach(false);
      for (List<Integer> s : states) {
        if (all(s, n)) {
          left.put(s, 0);
        }
      }
      for (int k = 1;; k++) {
        Map<List<Integer>, Integer> more = new HashMap<>();
        for (List<Integer> s : states) {
          if (!left.containsKey(s)) {
            for (int set = 0; set < 1 << people(); set++) {
              if (can(s, set) && left.containsKey(after(s, set))) {
                more.put(s, k);
              }
            }
          }
        }
        if (more.isEmpty()) {
          break;
        }
        left.putAll(more);
      }
      List<Integer> s = now.strengths;
      if (!left.containsKey(s)) {
        return null;
      }
      List<Integer> row = new ArrayList<>();
      while (left.get(s) > 0) {
        for (int set = 0;; set++) {
          if (can(s, set)) {
            Integer then = left.get(after(s, set));
            if (then != null && then == left.get(s) - 1) {
              row.add(set);
              s = after(s, set);
              break;
            }
          }
        }
      }
      return row;
    }

    int steady() {
      int found = 0;
      for (int set = 0; set < 1 << people(); set++) {
        if (can(now.strengths, set) && after(now.strengths, set).equals(now.strengths)) {
          found++;
        }
      }
      return found;
    }

    static final int BIG = 1000000;

    /** The worth for side 0 of telling a set, the worths of what comes then being told. */
    private int worth(List<Integer> s, int a, Map<List<Integer>, Integer> worths) {
      int worst = BIG;
      boolean first = hands(s, a, 0) >= house.must;
      for (int b = 0; b < 1 << people(); b++) {
        if ((b & ~of(1)) == 0 && can(s, b)) {
          boolean second = hands(s, b, 1) >= house.must;
          int worth;
          if (first && second) {
            int then = worths.get(after(s, a | b));
            worth = then > 0 ? then - 1 : then < 0 ? then + 1 : 0;
          } else {
            worth = first ? BIG - 1 : second ? 1 - BIG : 0;
          }
          worst = Math.min(worst, worth);
        }
      }
      return worst;
    }

    /** outcome, tells, ends. */
    int[] holdingOut() {
      Set<List<Integer>> states = reach(true);
      Map<List<Integer>, Integer> worths = new HashMap<>();
      for (List<Integer> s : states) {
        worths.put(s, 0);
      }
      while (true) {
        Map<List<Integer>, Integer> then = new HashMap<>();
        for (List<Integer> s : states) {
          int best = -BIG;
          for (int a = 0; a < 1 << people(); a++) {
            if ((a & ~of(0)) == 0 && can(s, a)) {
              best = Math.max(best, worth(s, a, worths));
            }
          }
          then.put(s, best);
        }
        if (then.equals(worths)) {
          break;
        }
        worths = then;
      }
      int best = worths.get(now.strengths);
      int tells = 0;
      for (int a = 0; a < 1 << people(); a++) {
        if ((a & ~of(0)) == 0 && can(now.strengths, a)
            && worth(now.strengths, a, worths) == best) {
          tells = a;
          break;
        }
      }
      return new int[] {Integer.signum(best), tells, best == 0 ? -1 : BIG - Math.abs(best)};
    }

    long seen(List<Integer> s, long[] told, int i, int banned, Map<String, Long> memo) {
      if (i == told.length) {
        return 1;
      }
      String key = i + ":" + s;
      Long got = memo.get(key);
      if (got == null) {
        got = 0L;
        for (int set = 0; set < 1 << people(); set++) {
          if (can(s, set) && (set & banned) == 0
              && (told[i] == -1 || Integer.bitCount(set) == told[i])) {
            got += seen(after(s, set), told, i + 1, banned, memo);
          }
        }
        memo.put(key, got);
      }
      return got;
    }

    List<Integer> seenBy(long[] told) {
      List<Integer> row = new ArrayList<>();
      Map<String, Long> memo = new HashMap<>();
      List<Integer> s = now.strengths;
      if (seen(s, told, 0, 0, memo) == 0) {
        return row;
      }
      for (int i = 0; i < told.length; i++) {
        for (int set = 0;; set++) {
          if (can(s, set) && (told[i] == -1 || Integer.bitCount(set) == told[i])
              && seen(after(s, set), told, i + 1, 0, memo) > 0) {
            row.add(set);
            s = after(s, set);
            break;
          }
        }
      }
      return row;
    }

    int surely(long[] told) {
      if (seen(now.strengths, told, 0, 0, new HashMap<>()) == 0) {
        return 0;
      }
      int found = 0;
      for (int p = 0; p < people(); p++) {
        if (seen(now.strengths, told, 0, 1 << p, new HashMap<>()) == 0) {
          found |= 1 << p;
        }
      }
      return found;
    }

    int colds(long[] told, int p) {
      int found = 0;
      for (int cold = 0; cold < 10; cold++) {
        List<Integer> s = now.strengths;
        boolean so = true;
        for (long one : told) {
          s = after(s, s.get(p) > 0 ? 1 << p : 0, cold);
          so &= s.get(p) == one;
        }
        if (so) {
          found |= 1 << cold;
        }
      }
      return found;
    }

    int attempt(long[] told, int p) {
      int colds = colds(told, p);
      if (colds == 0) {
        return -1;
      }
      int best = -1;
      int least = 100;
      for (int set = 0; set < 1 << people(); set++) {
        if (can(now.strengths, set)) {
          Map<List<Integer>, Integer> classes = new HashMap<>();
          int greatest = 0;
          for (int cold = 0; cold < 10; cold++) {
            if ((colds & 1 << cold) != 0) {
              greatest = Math.max(greatest,
                  classes.merge(after(now.strengths, set, cold), 1, Integer::sum));
            }
          }
          if (greatest < least) {
            least = greatest;
            best = set;
          }
        }
      }
      return best;
    }

    /** How many of the draws of lots are good; with side -1: strengths behind them, in all. */
    long draws(List<Integer> s, long[] told, int i, int side, Map<String, Long> memo) {
      if (i == told.length) {
        long sum = 0;
        for (int one : s) {
          sum += one;
        }
        return side < 0 ? sum : 1;
      }
      String key = i + ":" + s;
      Long got = memo.get(key);
      if (got == null) {
        got = 0L;
        int set = 0;
        for (int p = 0; p < people(); p++) {
          if ((told[i] & 1 << p) != 0 && s.get(p) > 0) {
            set |= 1 << p;
          }
        }
        if (side < 0 || hands(s, set, side) >= house.must) {
          for (int lot = 0; lot < 10; lot++) {
            List<Integer> then = after(s, set);
            if (lot < people()) {
              then.set(lot, 0);
            }
            got += draws(then, told, i + 1, side, memo);
          }
        }
        memo.put(key, got);
      }
      return got;
    }

    int fraction(long[] told, int side, int what) {
      BigInteger above = BigInteger.valueOf(draws(now.strengths, told, 0, side, new HashMap<>()));
      BigInteger below = BigInteger.TEN.pow(told.length);
      BigInteger shared = above.gcd(below);
      return (what == 0 ? above : below).divide(shared).intValueExact();
    }

    /** Why a deed can't be; it is done if 0. */
    int deed(long v) {
      if (v >= 0 && v <= 31) {
        if (v >= 1 << people()) {
          return 1;
        }
        if (!can(now.strengths, (int) v)) {
          return 2;
        }
        now.strengths = after(now.strengths, (int) v);
        now.hours++;
        return 0;
      }
      if (v >= 40 && v < 40 + people()) {
        now.sides[(int) v - 40] ^= 1;
        return 0;
      }
      if (v >= 50 && v < 50 + people()) {
        now.strengths = new ArrayList<>(now.strengths);
        now.strengths.set((int) v - 50, 4);
        return 0;
      }
      if (v >= 60 && v <= 69) {
        now.cold = (int) v - 60;
        return 0;
      }
      return 1;
    }
  }

  /** One run: the class and the model side by side. */
  static final class Run {
    private final Random random;
    private final Writer writer;
    private final HandsHeld x = new HandsHeld();
    private final Model m = new Model();
    private final List<String> log = new ArrayList<>();
    private final Deque<Now> past = new ArrayDeque<>();
    private final long[][] trays = new long[4][];
    private final int[] sorts = new int[4];
    private final House[] houses = new House[2];
    private final Now[] moments = new Now[2];
    private final int most;
    private int fault = 0;
    private int place = -1;

    Run(long seed, int most) {
      random = new Random(seed);
      this.most = most;
      writer = new Writer(random, most);
    }

    void go() {
      int before = wrong;
      for (int i = 0; i < (most > 3 ? 120 : 200) && wrong == before; i++) {
        if (i == 5 || i > 5 && random.nextInt(60) == 0) {
          hall();
        } else {
          call();
        }
      }
    }

    private void hall() {
      String text = writer.hall();
      if (random.nextInt(8) == 0 && text.length() > 3) {
        text = text.substring(0, random.nextInt(text.length()));
      }
      log.add("feed: " + text.replace("\n", "\\n"));
      int fed = Bounds.feed(x, text);
      check("count(8)", x.count(8), fed);
      if (random.nextInt(10) == 0) {
        check("hall(-1)", x.hall(-1), -3);
        check("hall(more)", x.hall(fed + 1), -3);
        check("count(8)", x.count(8), fed);
      }
      Parser parser = new Parser(text);
      fault = parser.fault;
      place = parser.place;
      check("hall", x.hall(text.length()), fault == 0 ? parser.house.lines : -30 - fault);
      check("count(8)", x.count(8), 0);
      if (fault == 0) {
        m.begin(parser.house);
        past.clear();
      }
    }

    private void check(String call, long got, long want) {
      due(log, call, got, want);
    }

    private int side() {
      return random.nextInt(12) == 0 ? random.nextInt(5) - 2 : random.nextInt(2);
    }

    private int who() {
      return random.nextInt(12) == 0 || m.people() == 0 ? random.nextInt(9) - 2
          : random.nextInt(m.people());
    }

    private int set() {
      return random.nextInt(10) == 0 ? random.nextInt(70) - 10 : random.nextInt(1 << m.people());
    }

    private int ableSet() {
      int able = 0;
      for (int p = 0; p < m.people(); p++) {
        if (m.now.strengths.get(p) > 0) {
          able |= 1 << p;
        }
      }
      return random.nextInt(8) == 0 ? set() : able & random.nextInt(32);
    }

    private int tray() {
      return random.nextInt(15) == 0 ? random.nextInt(8) - 2 : random.nextInt(4);
    }

    private boolean badSide(int side) {
      return side != 0 && side != 1;
    }

    private boolean noPerson(int p) {
      return p < 0 || p >= m.people();
    }

    private int refusedTray(int tray) {
      return tray < 0 || tray > 3 ? -2 : trays[tray] == null ? -6 : 0;
    }

    private int refused(int tray, int most, long low, long high) {
      int r = refusedTray(tray);
      if (r != 0) {
        return r;
      }
      if (trays[tray].length == 0 || trays[tray].length > most) {
        return -4;
      }
      for (long v : trays[tray]) {
        if (v < low || v > high) {
          return -3;
        }
      }
      return 0;
    }

    private void call() {
      switch (random.nextInt(20)) {
        case 0: case 1: deeds(); break;
        case 2: trayDeeds(); break;
        case 3: fill(); break;
        case 4: case 5: case 6: case 7: rosterCalls(); break;
        case 8: case 9: whatCanBe(); break;
        case 10: case 11: holdingOut(); break;
        case 12: case 13: seenCalls(); break;
        case 14: tiredCalls(); break;
        case 15: case 16: chanceCalls(); break;
        case 17: images(); break;
        default: looks(); break;
      }
    }

    private void deeds() {
      Now before = m.now.copy();
      int why;
      switch (random.nextInt(6)) {
        case 0: case 1: {
          int set = ableSet();
          int stood = 0;
          boolean known = set >= 0 && set < 1 << m.people();
          if (known) {
            stood = (m.hands(m.now.strengths, set, 0) >= m.house.must ? 1 : 0)
                + (m.hands(m.now.strengths, set, 1) >= m.house.must ? 2 : 0);
          }
          why = known ? m.deed(set) : 1;
          check("hour(" + set + ")", x.hour(set), why == 0 ? stood : -10 - why);
          break;
        }
        case 2: {
          int p = who();
          why = noPerson(p) ? 1 : m.deed(40 + p);
          check("change(" + p + ")", x.change(p), why == 0 ? m.now.sides[p] : -11);
          break;
        }
        case 3: {
          int p = who();
          why = noPerson(p) ? 1 : m.deed(50 + p);
          check("soup(" + p + ")", x.soup(p), why == 0 ? before.strengths.get(p) : -11);
          break;
        }
        case 4: {
          int n = random.nextInt(12) - 1;
          why = n < 0 || n > 9 ? 1 : m.deed(60 + n);
          check("cold(" + n + ")", x.cold(n), why == 0 ? before.cold : -11);
          break;
        }
        default: {
          int n = random.nextInt(4);
          if (n == 0) {
            n = random.nextInt(14) - 1;
          }
          boolean can = n >= 1 && n <= past.size();
          for (int i = 0; i < n && can; i++) {
            m.now = past.pop();
          }
          check("undo(" + n + ")", x.undo(n), can ? past.size() : -3);
          return;
        }
      }
      if (why == 0) {
        keep(before);
      }
    }

    private void keep(Now before) {
      past.push(before);
      if (past.size() > 10) {
        past.removeLast();
      }
    }

    private void trayDeeds() {
      int tray = tray();
      Now before = m.now.copy();
      if (random.nextInt(3) == 0) {
        int seed = random.nextInt();
        int times = random.nextInt(6) == 0 ? random.nextInt(60) - 5 : 1 + random.nextInt(40);
        int done = 0;
        int drawn = seed;
        for (int i = 0; i < times && times <= 40; i++) {
          drawn = 1103515245 * drawn + 12345;
          int kind = (drawn >>> 16) % 6;
          drawn = 1103515245 * drawn + 12345;
          int v = drawn >>> 16;
          if (m.deed(kind <= 3 ? v % 32 : kind == 4 ? 40 + v % 5 : 50 + v % 5) == 0) {
            done++;
          }
        }
        if (done > 0) {
          keep(before);
        }
        check("winter(" + seed + ", " + times + ")", x.winter(seed, times),
            times < 1 || times > 40 ? -3 : done);
        return;
      }
      if (random.nextBoolean() && tray >= 0 && tray < 4) {
        int sort = random.nextInt(4);
        int n = random.nextInt(6);
        numbers(tray, sort, n);
        for (int i = 0; i < n; i++) {
          int[] base = {0, 0, 40, 50, 60, 32, 70};
          int b = base[random.nextInt(random.nextInt(5) == 0 ? 7 : 5)];
          put(tray, i, b == 0 ? ableSet() : b + random.nextInt(b == 60 ? 10 : Math.max(1, m.people())));
        }
      }
      int done = 0;
      int why = 0;
      int r = refusedTray(tray);
      if (r == 0) {
        for (long v : trays[tray]) {
          why = m.deed(v);
          if (why != 0) {
            break;
          }
          done++;
        }
      }
      if (random.nextBoolean()) {
        check("perform(" + tray + ")", x.perform(tray), r != 0 ? r : done);
        if (done > 0) {
          keep(before);
        }
      } else {
        int sum = m.now.strengths.stream().mapToInt(v -> v).sum();
        int[] want = {why == 0 ? -1 : done, why, sum, m.of(1)};
        for (int what = -1; what < 5; what++) {
          boolean known = what >= 0 && what < 4;
          check("judge(" + tray + ", " + what + ")", x.judge(tray, what),
              !known ? -2 : r != 0 ? r : want[what]);
        }
        m.now = before;
      }
    }

    private void numbers(int tray, int sort, int n) {
      boolean none = tray < 0 || tray > 3 || sort < 0 || sort > 3;
      boolean off = n < 0 || n > 40;
      check("numbers(" + tray + ", " + sort + ", " + n + ")", x.numbers(tray, sort, n),
          none ? -2 : off ? -3 : 0);
      if (!none && !off) {
        trays[tray] = new long[n];
        sorts[tray] = sort;
      }
    }

    private void put(int tray, int i, long v) {
      int r = refusedTray(tray);
      long want = r;
      if (r == 0) {
        if (i < 0 || i >= trays[tray].length) {
          want = -7;
        } else {
          int bits = 8 << sorts[tray];
          want = v << 64 - bits >> 64 - bits;
          trays[tray][i] = want;
        }
      }
      check("write(" + tray + ", " + i + ", " + v + ")", x.write(tray, i, v), want);
    }

    private void fill() {
      int tray = tray();
      int n = random.nextInt(8) == 0 ? random.nextInt(50) - 4 : random.nextInt(9);
      numbers(tray, random.nextInt(10) == 0 ? random.nextInt(8) - 2 : random.nextInt(4), n);
      for (int i = 0; i < 3; i++) {
        put(tray, random.nextInt(10) - 1, random.nextBoolean() ? random.nextLong() : random.nextInt(6));
      }
    }

    private void told(int tray, int most, int low, int high) {
      if (tray < 0 || tray > 3 || random.nextInt(6) == 0) {
        return;
      }
      int n = random.nextInt(15) == 0 ? random.nextInt(12) : 1 + random.nextInt(most);
      numbers(tray, random.nextInt(4), n);
      for (int i = 0; i < n; i++) {
        put(tray, i, low + random.nextInt(high - low + 1));
      }
      if (random.nextInt(12) == 0 && n > 0) {
        put(tray, random.nextInt(n), random.nextBoolean() ? high + 1 : low - 1);
      }
    }

    private void rosterCalls() {
      int side = side();
      int n = random.nextInt(24) - 1;
      boolean bad = badSide(side);
      switch (random.nextInt(6)) {
        case 0:
          check("holds(" + side + ")", x.holds(side), bad ? -2 : m.holds(side, m.house.must, 0));
          break;
        case 1: {
          List<Integer> row = bad ? null : m.roster(side, 100);
          for (int i : new int[] {-1, 0, 1, 2, random.nextInt(30), 99, 100}) {
            check("roster(" + side + ", " + i + ")", x.roster(side, i),
                bad ? -2 : i < 0 || i > 99 ? -3 : i < row.size() ? row.get(i) : -1);
          }
          break;
        }
        case 2: {
          n = random.nextInt(13) - 1;
          long want = bad ? -2 : n < 0 || n > 10 ? -3
              : m.rosters(side, m.now.strengths, n, new HashMap<>());
          check("rosters(" + side + ", " + n + ")", x.rosters(side, n), want);
          break;
        }
        case 3:
          check("most(" + side + ", " + n + ")", x.most(side, n),
              bad ? -2 : n < 1 || n > 20 ? -3 : m.most(side, n));
          break;
        case 4:
          check("needed(" + side + ", " + n + ")", x.needed(side, n),
              bad ? -2 : n < 1 || n > 20 ? -3 : m.needed(side, n));
          break;
        default:
          lists(side);
          break;
      }
    }

    private void lists(int side) {
      int tray = tray();
      if (random.nextBoolean()) {
        numbers(tray, random.nextInt(4), random.nextInt(41));
      }
      int r = badSide(side) || tray < 0 || tray > 3 ? -2 : refusedTray(tray);
      int want = r;
      if (r == 0) {
        List<Integer> row = m.roster(side, trays[tray].length);
        want = row.size();
        for (int i = 0; i < row.size(); i++) {
          trays[tray][i] = row.get(i);
        }
      }
      check("lists(" + tray + ", " + side + ")", x.lists(tray, side), want);
    }

    private void whatCanBe() {
      int n = random.nextInt(7) - 1;
      switch (random.nextInt(3)) {
        case 0:
          check("stands()", x.stands(), m.reach(false).size());
          break;
        case 1: {
          boolean off = n < 0 || n > 4;
          List<Integer> row = off ? null : m.rest(n);
          check("rested(" + n + ")", x.rested(n), off ? -3 : row == null ? -1 : row.size());
          for (int i = -1; i < 6; i++) {
            check("restBy(" + n + ", " + i + ")", x.restBy(n, i), off || i < 0 ? -3
                : row == null || i >= row.size() ? -1 : row.get(i));
          }
          break;
        }
        default:
          check("steady()", x.steady(), m.steady());
          break;
      }
    }

    private void holdingOut() {
      int[] want = m.holdingOut();
      check("outcome()", x.outcome(), want[0]);
      check("tells()", x.tells(), want[1]);
      check("ends()", x.ends(), want[2]);
    }

    private void seenCalls() {
      int tray = tray();
      told(tray, 8, -1, Math.max(1, m.people()));
      int r = refused(tray, 8, -1, 5);
      if (r != 0) {
        check("seen(" + tray + ")", x.seen(tray), r);
        check("seenBy(" + tray + ", 0)", x.seenBy(tray, 0), r);
        check("seenBy(" + tray + ", -1)", x.seenBy(tray, -1), r);
        check("surely(" + tray + ")", x.surely(tray), r);
        return;
      }
      long[] numbers = trays[tray];
      check("seen(" + tray + ")", x.seen(tray),
          m.seen(m.now.strengths, numbers, 0, 0, new HashMap<>()));
      List<Integer> row = m.seenBy(numbers);
      for (int i = -1; i < 9; i++) {
        check("seenBy(" + tray + ", " + i + ")", x.seenBy(tray, i),
            i < 0 ? -3 : i < row.size() ? row.get(i) : -1);
      }
      check("surely(" + tray + ")", x.surely(tray), m.surely(numbers));
    }

    private void tiredCalls() {
      int tray = tray();
      int p = who();
      told(tray, 10, 0, 4);
      // Mostly what a cold would bring, so that there is something to find.
      if (!noPerson(p) && tray >= 0 && tray < 4 && random.nextInt(3) > 0) {
        int n = 1 + random.nextInt(4);
        numbers(tray, random.nextInt(4), n);
        int cold = random.nextInt(10);
        int strength = m.now.strengths.get(p);
        for (int i = 0; i < n; i++) {
          strength = m.tiredTo(p, strength, cold, strength > 0 ? 1 << p : 0);
          put(tray, i, strength);
        }
      }
      int r = noPerson(p) || tray < 0 || tray > 3 ? -2 : refused(tray, 10, 0, 4);
      check("colds(" + tray + ", " + p + ")", x.colds(tray, p),
          r != 0 ? r : m.colds(trays[tray], p));
      check("attempt(" + tray + ", " + p + ")", x.attempt(tray, p),
          r != 0 ? r : m.attempt(trays[tray], p));
    }

    private void chanceCalls() {
      int tray = tray();
      int side = side();
      told(tray, 6, 0, (1 << m.people()) - 1);
      int r = refused(tray, 6, 0, (1 << m.people()) - 1);
      for (int what = -1; what < 3; what++) {
        boolean off = what < 0 || what > 1;
        check("chance(" + tray + ", " + side + ", " + what + ")", x.chance(tray, side, what),
            off || badSide(side) ? -2 : r != 0 ? r : m.fraction(trays[tray], side, what));
        check("mean(" + tray + ", " + what + ")", x.mean(tray, what),
            off ? -2 : r != 0 ? r : m.fraction(trays[tray], -1, what));
      }
    }

    private void images() {
      int i = random.nextInt(8) == 0 ? random.nextInt(5) - 2 : random.nextInt(2);
      boolean none = i < 0 || i > 1;
      if (random.nextBoolean()) {
        check("image(" + i + ")", x.image(i), none ? -2 : 0);
        if (!none) {
          houses[i] = m.house;
          moments[i] = m.now.copy();
        }
      } else {
        boolean off = none || houses[i] == null;
        check("restore(" + i + ")", x.restore(i), none ? -2 : off ? -5 : 0);
        if (!off) {
          m.begin(houses[i]);
          m.now = moments[i].copy();
          past.clear();
        }
      }
    }

    private void looks() {
      int p = who();
      int set = ableSet();
      int side = side();
      for (int what = -1; what < 6; what++) {
        long want = -2;
        if (!noPerson(p) && what >= 0 && what < 5) {
          int strength = m.now.strengths.get(p);
          want = what == 0 ? m.now.sides[p] : what == 1 ? strength : what < 4
              ? m.house.people.get(p)[what] : m.counts(p, strength) ? 1 : 0;
        }
        check("person(" + p + ", " + what + ")", x.person(p, what), want);
      }
      int r = set < 0 || set >= 1 << m.people() ? -3 : !m.can(m.now.strengths, set) ? -5 : 0;
      check("by(" + set + ", " + p + ")", x.by(set, p), noPerson(p) ? -2 : r != 0 ? r
          : m.tiredTo(p, m.now.strengths.get(p), m.now.cold, set));
      check("counted(" + set + ", " + side + ")", x.counted(set, side), badSide(side) ? -2
          : r != 0 ? r : m.hands(m.now.strengths, set, side));
      int able = 0;
      int sum = 0;
      for (int q = 0; q < m.people(); q++) {
        sum += m.now.strengths.get(q);
        able |= m.now.strengths.get(q) > 0 ? 1 << q : 0;
      }
      int[] want = {m.people(), m.house.must, m.of(1), sum, able, m.now.cold, m.now.hours,
          past.size(), 0, m.house.lines};
      for (int what = -1; what < 11; what++) {
        check("count(" + what + ")", x.count(what), what < 0 || what > 9 ? -1 : want[what]);
      }
      check("fault(0)", x.fault(0), fault);
      check("fault(1)", x.fault(1), place);
      check("fault(2)", x.fault(2), -1);
      check("fault(-1)", x.fault(-1), -1);
    }
  }
}
