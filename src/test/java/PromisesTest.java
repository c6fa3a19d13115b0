/** Each promise of the document by its number: ordinary inputs, edges, wrong inputs. */
public final class PromisesTest {
  private static final int NONE = -1;
  private static int wrong = 0;
  private static int promise = 0;

  public static void main(String[] args) {
    anObject();
    feeding();
    halls();
    faults();
    people();
    by();
    counted();
    hours();
    changes();
    soup();
    colds();
    undoing();
    judging();
    performing();
    winters();
    holding();
    rosters();
    manyRosters();
    mostHands();
    neededPeople();
    stands();
    rested();
    restBy();
    steady();
    holdingOut();
    seen();
    surely();
    tired();
    attempts();
    chances();
    means();
    trays();
    lists();
    images();
    counts();
    laws();
    System.out.println(wrong == 0 ? "all promises are kept" : wrong + " answers are wrong");
    if (wrong > 0) {
      System.exit(1);
    }
  }

  private static void due(String call, long got, long want) {
    if (got != want) {
      wrong++;
      System.out.println("promise " + promise + ": " + call + " answered " + got + ", due is " + want);
    }
  }

  private static int tell(HandsHeld x, String text) {
    Bounds.feed(x, text);
    return x.hall(text.length());
  }

  private static HandsHeld of(String text) {
    HandsHeld x = new HandsHeld();
    int lines = tell(x, text);
    if (lines < 1) {
      due("hall of " + text, lines, 1);
    }
    return x;
  }

  private static void fill(HandsHeld x, int tray, int sort, long... numbers) {
    due("numbers", x.numbers(tray, sort, numbers.length), 0);
    for (int i = 0; i < numbers.length; i++) {
      due("write", x.write(tray, i, numbers[i]), numbers[i]);
    }
  }

  private static final String THREE =
      "hall must 1; person side 0 strength 2; person side 0 strength 1; person side 1 strength 3;";

  private static void anObject() {
    promise = 1;
    HandsHeld x = new HandsHeld();
    due("NONE", HandsHeld.NONE, -1);
    int[] counts = {0, 1, 0, 0, 0, 0, 0, 0, 0, 0};
    for (int what = 0; what < 10; what++) {
      due("count(" + what + ")", x.count(what), counts[what]);
    }
    due("fault(0)", x.fault(0), 0);
    due("fault(1)", x.fault(1), NONE);
    due("hour(0)", x.hour(0), 0);
    due("holds(0)", x.holds(0), 0);
    due("stands()", x.stands(), 1);
    due("rested(4)", x.rested(4), 0);
    due("outcome()", x.outcome(), 0);
    for (int i = 0; i < 4; i++) {
      due("perform", x.perform(i), -6);
    }
    due("restore(0)", x.restore(0), -5);
    due("restore(1)", x.restore(1), -5);
  }

  private static void feeding() {
    promise = 2;
    HandsHeld x = new HandsHeld();
    for (int i = 1; i <= 45; i++) {
      due("feed", x.feed(-1, 0, 1, 2, 3), 20 * i);
    }
    due("feed", x.feed(0, 0, 0, 0, 0), -5);
    due("count(8)", x.count(8), 900);
    due("hall(900)", x.hall(900), -31);
    due("count(8)", x.count(8), 0);
    due("feed", x.feed(0x68616c6c, 0x206d7573, 0x7420333b, 0x20202020, 0x0a0a0a0a), 20);
    due("hall(20)", x.hall(20), 1);
    due("count(1)", x.count(1), 3);
  }

  private static void halls() {
    promise = 3;
    HandsHeld x = of(THREE);
    due("count(0)", x.count(0), 3);
    due("count(9)", x.count(9), 4);
    x.hour(1);
    x.cold(4);
    Bounds.feed(x, "hall must 2;");
    due("hall(-1)", x.hall(-1), -3);
    due("hall(21)", x.hall(21), -3);
    due("count(8)", x.count(8), 20);
    due("hall(11)", x.hall(11), -32);
    due("count(8)", x.count(8), 0);
    due("count(1)", x.count(1), 1);
    due("count(6)", x.count(6), 1);
    due("count(7)", x.count(7), 2);
    due("count(5)", x.count(5), 4);
    due("hall(1)", x.hall(1), -3);
    due("hall(0)", x.hall(0), -32);
    due("fault(1)", x.fault(1), 0);
    Bounds.feed(x, "hall must 2;person side 1 rod;cold 7;");
    due("hall(12)", x.hall(12), 1);
    due("count(8)", x.count(8), 0);
    due("count(0)", x.count(0), 0);
    due("count(5)", x.count(5), 0);
    due("count(6)", x.count(6), 0);
    due("count(7)", x.count(7), 0);
    due("undo(1)", x.undo(1), -3);
    due("hall", tell(x, "hallmust 2;"), -32);
    due("hall", tell(x, "hall\nmust 0\n;\n\n"), 1);
    due("hall", tell(x, "hall must 2;person side 1 rod;cold 7;cold 2;person side 0"), -32);
    due("hall", tell(x, "hall must 2;person side 1 rod;cold 7;cold 2;"), 4);
    due("count(5)", x.count(5), 2);
    due("hall", tell(x, "hall must 005;person side 0strength 1weight 2rod strength 3;"), 2);
    due("count(1)", x.count(1), 5);
    due("person(0, 1)", x.person(0, 1), 3);
    due("person(0, 2)", x.person(0, 2), 2);
  }

  private static void fault(String text, int kind, int place) {
    HandsHeld x = new HandsHeld();
    due("hall of " + text, tell(x, text), -30 - kind);
    due("fault(0) of " + text, x.fault(0), kind);
    due("fault(1) of " + text, x.fault(1), place);
    due("fault(2)", x.fault(2), NONE);
    due("fault(-1)", x.fault(-1), NONE);
    due("count(0)", x.count(0), 0);
  }

  private static void faults() {
    promise = 4;
    HandsHeld x = of(THREE);
    due("fault(0)", x.fault(0), 0);
    due("fault(1)", x.fault(1), NONE);
    tell(x, "hall must 1; cold 10;");
    due("fault(1)", x.fault(1), 18);
    due("hall(7)", x.hall(7), -3);
    due("fault(0)", x.fault(0), 3);
    x.image(0);
    tell(x, "hall must 1;");
    due("fault(0)", x.fault(0), 0);
    due("fault(1)", x.fault(1), NONE);
    fault("", 2, 0);
    fault("  \n", 2, 3);
    fault("hall", 2, 4);
    fault("hall must  ", 2, 11);
    fault("must 1;", 2, 0);
    fault("hall must 6;", 3, 10);
    fault("hall must 1000;", 1, 10);
    fault("hall must 0001;", 1, 10);
    fault("hall Must 1;", 1, 5);
    fault("hall must 1\t;", 1, 11);
    fault("hall must " + (char) 200 + ";", 1, 10);
    fault("hall must 1; hall must 1;", 2, 13);
    fault("hall must 1;;", 2, 12);
    fault("hall must 1; rod;", 2, 13);
    fault("hall must 1; persons side 0;", 2, 13);
    fault("hall must 1; perso side 0;", 2, 13);
    fault("hall must 1; az 1;", 2, 13);
    fault("hall must 1; zza 1;", 2, 13);
    fault("hall must 1; `a 1;", 1, 13);
    fault("hall must 1; {a 1;", 1, 13);
    fault("hall must 1; cold /;", 1, 18);
    fault("hall must 1; cold ?;", 1, 18);
    fault("hall must 1; tires: hall;", 2, 20);
    fault("hall must 1; tires: tires;", 2, 20);
    fault("hall must 1; counts: hall = 1;", 2, 21);
    fault("hall must 1; person side 2;", 3, 25);
    fault("hall must 1; person side 0 strength 5;", 3, 36);
    fault("hall must 1; person side 0 weight 10;", 3, 34);
    fault("hall must 1; person side 0 weight 9 cold 1;", 2, 36);
    fault("hall must 1; person strength 1 side 0;", 2, 20);
    fault("hall must 1; cold 10;", 3, 18);
    fault("hall must 1; tires 1;", 2, 19);
    fault("hall must 1; tires: 1 < 2;", 2, 22);
    fault("hall must 1; tires: [1];", 2, 20);
    fault("hall must 1; tires: 1 + ;", 2, 24);
    fault("hall must 1; tires: - 1;", 2, 20);
    fault("hall must 1; tires: (1;", 2, 22);
    fault("hall must 1; tires: if 1 < 2 then 1 end;", 2, 36);
    fault("hall must 1; tires: if 1 then 1 else 2 end;", 2, 25);
    fault("hall must 1; counts: 1;", 2, 22);
    fault("hall must 1; counts: held = 1;", 2, 21);
    fault("hall must 1; counts: 1 = mates;", 2, 25);
    fault("hall must 1; counts: others > 0;", 2, 21);
    fault("hall must 1; counts: 1 = 1 = 1;", 2, 27);
    fault("hall must 1; counts: (1 = 1);", 2, 24);
    fault("hall must 1; counts: not 1;", 2, 26);
    fault("hall must 1; counts: [1 = 1;", 2, 27);
    String five = "hall must 1;person side 0;person side 0;person side 0;person side 0;person side 0;";
    due("five", tell(new HandsHeld(), five), 6);
    fault(five + "person", 4, 82);
    fault(five + "side", 2, 82);
    due("six within", tell(new HandsHeld(), "hall must 1;tires:((((((1))))));"), 2);
    fault("hall must 1;tires:(((((((1)))))));", 4, 24);
    due("six of all", tell(new HandsHeld(),
        "hall must 1;counts:not [not [(if 1 = 1 then 1 else 2 end) = 1]];"), 2);
    fault("hall must 1;counts:not [not [(if (1) = 1 then 1 else 2 end) = 1]];", 4, 33);
    fault("hall must 1;counts:not not not not not not not 1=1;", 4, 43);
    fault("hall must 1;counts:[[[[[[[", 4, 25);
    fault("hall must 1;tires:((((((if 1", 4, 24);
    due("six from if on", tell(new HandsHeld(), "hall must 1;tires:if [[[[[1=1]]]]] then "
        + "(((((1))))) else (((((2))))) end;"), 2);
    fault("hall must 1;tires:if [[[[[[1=1", 4, 26);
    due("six from not on", tell(new HandsHeld(), "hall must 1;counts:not [[[[[1=1]]]]];"), 2);
    due("nine hundred bytes", tell(new HandsHeld(), "hall must 1;tires:1" + "+1".repeat(440) + ";"), 2);
    due("beside", tell(new HandsHeld(),
        "hall must 1;tires:((((((1)))))) + ((((((1))))));"), 2);
  }

  private static void people() {
    promise = 5;
    HandsHeld x = of("hall must 1; person side 1 strength 0 weight 9 rod; person side 0;"
        + "counts: strength + side > 1;");
    int[][] want = {{1, 0, 9, 1, 0}, {0, 4, 1, 0, 1}};
    for (int p = 0; p < 2; p++) {
      for (int what = 0; what < 5; what++) {
        due("person(" + p + ", " + what + ")", x.person(p, what), want[p][what]);
      }
      due("person", x.person(p, 5), -2);
      due("person", x.person(p, -1), -2);
    }
    due("person(2, 0)", x.person(2, 0), -2);
    due("person(-1, 0)", x.person(-1, 0), -2);
    x.soup(0);
    due("person(0, 4)", x.person(0, 4), 1);
    x.change(0);
    due("person(0, 0)", x.person(0, 0), 0);
  }

  private static void by() {
    promise = 6;
    HandsHeld x = of("hall must 1; person side 0 strength 2; person side 0 strength 0;"
        + "person side 1 strength 3 rod; person side 1;");
    due("by(1, 0)", x.by(1, 0), 1);
    due("by(0, 0)", x.by(0, 0), 3);
    due("by(1, 1)", x.by(1, 1), 1);
    due("by(4, 2)", x.by(4, 2), 3);
    due("by(0, 2)", x.by(0, 2), 3);
    due("by(0, 3)", x.by(0, 3), 4);
    due("by(8, 3)", x.by(8, 3), 3);
    due("by(2, 0)", x.by(2, 0), -5);
    due("by(18, 0)", x.by(18, 0), -3);
    due("by(-1, 0)", x.by(-1, 0), -3);
    due("by(-1, 4)", x.by(-1, 4), -2);
    due("by(0, -1)", x.by(0, -1), -2);
    due("count(6)", x.count(6), 0);
  }

  private static void counted() {
    promise = 7;
    HandsHeld x = of("hall must 1; person side 0 strength 2; person side 0 strength 0;"
        + "person side 1 strength 1; person side 1; counts: strength > 1 and not cold = 9;");
    due("counted(13, 0)", x.counted(13, 0), 1);
    due("counted(13, 1)", x.counted(13, 1), 1);
    due("counted(12, 0)", x.counted(12, 0), 0);
    due("counted(0, 1)", x.counted(0, 1), 0);
    due("counted(2, 0)", x.counted(2, 0), -5);
    due("counted(16, 0)", x.counted(16, 0), -3);
    due("counted(-16, 2)", x.counted(-16, 2), -2);
    due("counted(0, -1)", x.counted(0, -1), -2);
    x.cold(9);
    due("counted(13, 0)", x.counted(13, 0), 0);
  }

  private static void hours() {
    promise = 8;
    HandsHeld x = of(THREE);
    due("hour(5)", x.hour(5), 3);
    due("strengths", x.person(0, 1) * 100 + x.person(1, 1) * 10 + x.person(2, 1), 122);
    due("hour(3)", x.hour(3), 1);
    due("strengths", x.person(0, 1) * 100 + x.person(1, 1) * 10 + x.person(2, 1), 13);
    due("hour(0)", x.hour(0), 0);
    due("strengths", x.person(0, 1) * 100 + x.person(1, 1) * 10 + x.person(2, 1), 124);
    due("hour(4)", x.hour(4), 2);
    due("count(6)", x.count(6), 4);
    due("hour(1)", x.hour(1), 1);
    due("hour(1)", x.hour(1), 1);
    due("hour(1)", x.hour(1), -12);
    due("hour(9)", x.hour(9), -11);
    due("hour(8)", x.hour(8), -11);
    due("hour(-1)", x.hour(-1), -11);
    for (int set = 32; set < 80; set++) {
      due("hour(" + set + ")", x.hour(set), -11);
    }
    due("count(6)", x.count(6), 6);
    due("count(7)", x.count(7), 6);
    due("all must", of("hall must 0; person side 0;").hour(0), 3);
  }

  private static void changes() {
    promise = 9;
    HandsHeld x = of(THREE);
    due("change(1)", x.change(1), 1);
    due("count(2)", x.count(2), 6);
    due("change(2)", x.change(2), 0);
    due("count(2)", x.count(2), 2);
    due("change(1)", x.change(1), 0);
    due("change(3)", x.change(3), -11);
    for (int p = -60; p < 0; p++) {
      due("change(" + p + ")", x.change(p), -11);
      due("change(" + (3 - p) + ")", x.change(3 - p), -11);
    }
    due("count(7)", x.count(7), 3);
    due("count(6)", x.count(6), 0);
  }

  private static void soup() {
    promise = 10;
    HandsHeld x = of(THREE);
    due("soup(1)", x.soup(1), 1);
    due("soup(1)", x.soup(1), 4);
    due("count(7)", x.count(7), 2);
    due("soup(3)", x.soup(3), -11);
    for (int p = -60; p < 0; p++) {
      due("soup(" + p + ")", x.soup(p), -11);
      due("soup(" + (3 - p) + ")", x.soup(3 - p), -11);
    }
    due("count(3)", x.count(3), 9);
    due("count(7)", x.count(7), 2);
  }

  private static void colds() {
    promise = 11;
    HandsHeld x = of(THREE + "cold 5;");
    due("cold(0)", x.cold(0), 5);
    due("cold(9)", x.cold(9), 0);
    due("cold(9)", x.cold(9), 9);
    due("cold(10)", x.cold(10), -11);
    for (int n = -70; n < 0; n++) {
      due("cold(" + n + ")", x.cold(n), -11);
    }
    due("count(5)", x.count(5), 9);
    due("count(7)", x.count(7), 3);
  }

  private static void undoing() {
    promise = 12;
    HandsHeld x = of(THREE);
    due("undo(1)", x.undo(1), -3);
    x.hour(1);
    x.change(0);
    x.soup(1);
    x.cold(8);
    due("undo(0)", x.undo(0), -3);
    due("undo(5)", x.undo(5), -3);
    due("undo(-1)", x.undo(-1), -3);
    due("undo(1)", x.undo(1), 3);
    due("count(5)", x.count(5), 0);
    due("person(1, 1)", x.person(1, 1), 4);
    due("undo(3)", x.undo(3), 0);
    due("count(2)", x.count(2), 4);
    due("count(3)", x.count(3), 6);
    due("count(6)", x.count(6), 0);
    for (int i = 1; i <= 13; i++) {
      x.cold(i % 10);
    }
    due("count(7)", x.count(7), 10);
    due("undo(11)", x.undo(11), -3);
    due("undo(10)", x.undo(10), 0);
    due("count(5)", x.count(5), 3);
    x.hour(32);
    x.soup(9);
    due("refused calls are not kept", x.count(7), 0);
    fill(x, 0, 0, 1, 40, 69);
    due("perform", x.perform(0), 3);
    due("undo(1)", x.undo(1), 0);
    due("count(2)", x.count(2), 4);
    due("count(3)", x.count(3), 6);
    due("count(5)", x.count(5), 3);
    due("count(6)", x.count(6), 0);
  }

  private static void judging() {
    promise = 13;
    HandsHeld x = of(THREE);
    due("judge(0, 0)", x.judge(0, 0), -6);
    due("judge(4, 0)", x.judge(4, 0), -2);
    due("judge(-1, 0)", x.judge(-1, 0), -2);
    due("judge(0, 4)", x.judge(0, 4), -2);
    due("judge(0, -1)", x.judge(0, -1), -2);
    x.numbers(0, 3, 0);
    due("judge(0, 0)", x.judge(0, 0), NONE);
    due("judge(0, 1)", x.judge(0, 1), 0);
    due("judge(0, 2)", x.judge(0, 2), 6);
    due("judge(0, 3)", x.judge(0, 3), 4);
    fill(x, 0, 0, 2, 40, 52, 61, 2, 2, 41);
    due("judge(0, 0)", x.judge(0, 0), 4);
    due("judge(0, 1)", x.judge(0, 1), 2);
    due("judge(0, 2)", x.judge(0, 2), 3 + 0 + 4);
    due("judge(0, 3)", x.judge(0, 3), 5);
    due("count(3)", x.count(3), 6);
    due("count(7)", x.count(7), 0);
    long[] unknown = {8, 31, 32, 39, 43, 49, 53, 59, 70, -1, 256};
    for (long deed : unknown) {
      fill(x, 1, 2, 60, deed, 0);
      due("judge(1, 0) of " + deed, x.judge(1, 0), 1);
      due("judge(1, 1) of " + deed, x.judge(1, 1), 1);
    }
    fill(x, 1, 3, 4294967296L);
    due("judge(1, 1)", x.judge(1, 1), 1);
    long[] known = {0, 7, 40, 42, 50, 52, 60, 69};
    for (long deed : known) {
      fill(x, 1, 1, deed);
      due("judge(1, 0) of " + deed, x.judge(1, 0), NONE);
      due("judge(1, 1) of " + deed, x.judge(1, 1), 0);
    }
  }

  private static void performing() {
    promise = 14;
    HandsHeld x = of(THREE);
    due("perform(0)", x.perform(0), -6);
    due("perform(4)", x.perform(4), -2);
    due("perform(-1)", x.perform(-1), -2);
    fill(x, 3, 0, 7, 61, 42, 50, 2, 60);
    due("perform(3)", x.perform(3), 4);
    due("count(3)", x.count(3), 4 + 0 + 2);
    due("count(5)", x.count(5), 1);
    due("count(2)", x.count(2), 0);
    due("count(6)", x.count(6), 1);
    due("count(7)", x.count(7), 1);
    fill(x, 3, 0, 2);
    due("perform(3)", x.perform(3), 0);
    x.numbers(3, 0, 0);
    due("perform(3)", x.perform(3), 0);
    due("count(7)", x.count(7), 1);
    due("undo(1)", x.undo(1), 0);
    due("count(2)", x.count(2), 4);
  }

  private static void winters() {
    promise = 15;
    HandsHeld x = of(THREE);
    due("winter(1, 0)", x.winter(1, 0), -3);
    due("winter(1, 41)", x.winter(1, 41), -3);
    due("winter(1, -1)", x.winter(1, -1), -3);
    for (int seed = -40; seed < 40; seed++) {
      HandsHeld one = of(THREE);
      HandsHeld two = of(THREE);
      int done = 0;
      int draw = seed * 77777777;
      for (int i = 0; i < 40; i++) {
        draw = 1103515245 * draw + 12345;
        int kind = (draw >>> 16) % 6;
        draw = 1103515245 * draw + 12345;
        int v = draw >>> 16;
        int answer = kind < 4 ? two.hour(v % 32) : kind == 4 ? two.change(v % 5) : two.soup(v % 5);
        done += answer < 0 ? 0 : 1;
      }
      due("winter", one.winter(seed * 77777777, 40), done);
      for (int what = 2; what < 7; what++) {
        due("count(" + what + ")", one.count(what), two.count(what));
      }
      due("count(7)", one.count(7), done > 0 ? 1 : 0);
      due("undo(1)", one.undo(1), 0);
      due("count(3)", one.count(3), 6);
    }
    HandsHeld empty = new HandsHeld();
    int could = 0;
    int draw = 3;
    for (int i = 0; i < 40; i++) {
      draw = 1103515245 * draw + 12345;
      int kind = (draw >>> 16) % 6;
      draw = 1103515245 * draw + 12345;
      could += kind < 4 && (draw >>> 16) % 32 == 0 ? 1 : 0;
    }
    due("winter without people", empty.winter(3, 40), could);
    due("count(6)", empty.count(6), could);
  }

  private static void holding() {
    promise = 16;
    HandsHeld x = of(THREE);
    due("holds(0)", x.holds(0), NONE);
    due("holds(1)", x.holds(1), 3);
    due("holds(2)", x.holds(2), -2);
    due("holds(-1)", x.holds(-1), -2);
    due("for ever, 0 hands", of("hall must 0; person side 0;").holds(1), NONE);
    due("too few", of("hall must 2; person side 0;").holds(0), 0);
    due("a rod", of("hall must 1; person side 0 strength 1 rod;").holds(0), NONE);
    due("weak", of("hall must 1; person side 0 strength 0;").holds(0), 0);
    due("two of three", of("hall must 2; person side 0 strength 2; person side 0 strength 2;"
        + "person side 0 strength 2;").holds(0), 4);
    due("the other side's rest", of("hall must 1; person side 0 strength 1; person side 1;"
        + "tires: strength - held + others;").holds(0), 1);
  }

  private static void rosters() {
    promise = 17;
    HandsHeld x = of(THREE);
    int[] first = {1, 1, 2, 1};
    for (int i = 0; i < 3; i++) {
      due("roster(1, " + i + ")", x.roster(1, i), 4);
    }
    due("roster(1, 3)", x.roster(1, 3), NONE);
    due("roster(1, 99)", x.roster(1, 99), NONE);
    due("roster(0, 0)", x.roster(0, 0), first[0]);
    due("roster(0, 1)", x.roster(0, 1), first[1]);
    due("roster(0, 2)", x.roster(0, 2), first[2]);
    due("roster(0, 3)", x.roster(0, 3), first[3]);
    due("roster(0, 98)", x.roster(0, 98), 2);
    due("roster(0, 99)", x.roster(0, 99), 1);
    due("roster(0, 100)", x.roster(0, 100), -3);
    due("roster(0, -1)", x.roster(0, -1), -3);
    due("roster(2, -1)", x.roster(2, -1), -2);
    due("0 hands", of("hall must 0; person side 0;").roster(0, 99), 0);
    due("count(6)", x.count(6), 0);
  }

  private static void manyRosters() {
    promise = 18;
    HandsHeld x = of(THREE);
    due("rosters(0, 0)", x.rosters(0, 0), 1);
    due("rosters(0, 1)", x.rosters(0, 1), 3);
    due("rosters(0, 2)", x.rosters(0, 2), 3 + 1 + 1);
    due("rosters(1, 3)", x.rosters(1, 3), 1);
    due("rosters(1, 4)", x.rosters(1, 4), 0);
    due("rosters(0, 11)", x.rosters(0, 11), -3);
    due("rosters(0, -1)", x.rosters(0, -1), -3);
    due("rosters(2, 11)", x.rosters(2, 11), -2);
    HandsHeld rods = of("hall must 0; person side 1 rod; person side 1 rod; person side 1 rod;"
        + "person side 1 rod; person side 1 rod;");
    due("rosters(1, 10)", rods.rosters(1, 10), 1L << 50);
    due("rosters(0, 10)", rods.rosters(0, 10), 1);
  }

  private static void mostHands() {
    promise = 19;
    HandsHeld x = of(THREE);
    due("most(0, 1)", x.most(0, 1), 2);
    due("most(0, 2)", x.most(0, 2), 1);
    due("most(0, 20)", x.most(0, 20), 1);
    due("most(1, 3)", x.most(1, 3), 1);
    due("most(1, 4)", x.most(1, 4), 0);
    due("most(0, 0)", x.most(0, 0), -3);
    due("most(0, 21)", x.most(0, 21), -3);
    due("most(2, 0)", x.most(2, 0), -2);
    due("five", of("hall must 0; person side 0 rod; person side 0 rod; person side 0 rod;"
        + "person side 0 rod; person side 0 rod;").most(0, 20), 5);
    due("nobody", of("hall must 0; person side 0 rod;").most(1, 1), 0);
  }

  private static void neededPeople() {
    promise = 20;
    HandsHeld x = of(THREE);
    due("needed(0, 1)", x.needed(0, 1), 0);
    due("needed(0, 2)", x.needed(0, 2), 1);
    due("needed(0, 3)", x.needed(0, 3), 3);
    due("needed(1, 3)", x.needed(1, 3), 4);
    due("needed(1, 4)", x.needed(1, 4), 0);
    due("needed(0, 0)", x.needed(0, 0), -3);
    due("needed(0, 21)", x.needed(0, 21), -3);
    due("needed(-1, 21)", x.needed(-1, 21), -2);
    due("0 hands", of("hall must 0; person side 0;").needed(0, 20), 0);
  }

  private static void stands() {
    promise = 21;
    due("one", of("hall must 1; person side 0;").stands(), 5);
    due("a rod", of("hall must 1; person side 0 rod;").stands(), 1);
    due("three", of(THREE).stands(), 125);
    due("all", of("hall must 1; person side 0; person side 1; person side 0; person side 1;"
        + "person side 0;").stands(), 3125);
    due("down", of("hall must 1; person side 0 strength 3; tires: strength - held;").stands(), 4);
    due("fixed", of("hall must 1; person side 0 strength 3; tires: 1;").stands(), 2);
  }

  private static void rested() {
    promise = 22;
    HandsHeld x = of(THREE);
    due("rested(4)", x.rested(4), 3);
    due("rested(1)", x.rested(1), 0);
    due("rested(2)", x.rested(2), 1);
    due("rested(0)", x.rested(0), 0);
    due("rested(5)", x.rested(5), -3);
    due("rested(-1)", x.rested(-1), -3);
    due("a rod", of("hall must 1; person side 0 rod strength 3;").rested(4), NONE);
    due("warm by holding", of("hall must 1; person side 0 strength 1;"
        + "tires: strength + held;").rested(4), 3);
  }

  private static void restBy() {
    promise = 23;
    HandsHeld x = of("hall must 1; person side 0 strength 1; person side 1 strength 3;"
        + "tires: if person = 0 then strength + held else strength + 1 - others end;");
    due("rested(4)", x.rested(4), 4);
    int[] row = {0, 1, 1, 1};
    for (int i = 0; i < 4; i++) {
      due("restBy(4, " + i + ")", x.restBy(4, i), row[i]);
    }
    due("restBy(4, 4)", x.restBy(4, 4), NONE);
    due("restBy(4, 1000)", x.restBy(4, 1000), NONE);
    due("restBy(4, -1)", x.restBy(4, -1), -3);
    due("restBy(5, 0)", x.restBy(5, 0), -3);
    due("restBy(-1, 0)", x.restBy(-1, 0), -3);
    due("restBy(0, 0)", x.restBy(0, 0), NONE);
    due("a rod", of("hall must 1; person side 0 rod strength 3;").restBy(4, 0), NONE);
  }

  private static void steady() {
    promise = 24;
    due("rods", of("hall must 1; person side 0 rod; person side 1 rod strength 0;").steady(), 2);
    due("at rest", of("hall must 1; person side 0; person side 1;").steady(), 1);
    due("none", of(THREE).steady(), 0);
    due("all", of("hall must 1; person side 0; person side 1; person side 1;"
        + "tires: strength;").steady(), 8);
  }

  private static void holdingOut() {
    promise = 25;
    String[] texts = {
        "hall must 1; person side 0 strength 2; person side 1 strength 3; person side 0 strength 1;",
        "hall must 1; person side 0 strength 2; person side 1 strength 2;",
        "hall must 1; person side 0 strength 2; person side 1 strength 3;",
        "hall must 1; person side 0 rod; person side 1 rod;",
        "hall must 1; person side 0 strength 0; person side 1 strength 0;",
        "hall must 1; person side 0 strength 3;",
        "hall must 1; person side 1 strength 3;",
        "hall must 2; person side 0; person side 0 strength 1; person side 1; person side 1;",
        "hall must 5; person side 0; person side 0; person side 0; person side 0; person side 0;",
        "hall must 5; person side 1; person side 1; person side 1; person side 1; person side 1;"};
    int[][] want = {{1, 1, 4}, {0, 1, NONE}, {-1, 1, 3}, {0, 1, NONE}, {0, 0, NONE}, {1, 1, 1},
        {-1, 0, 1}, {-1, 3, 2}, {1, 31, 1}, {-1, 0, 1}};
    for (int i = 0; i < texts.length; i++) {
      HandsHeld x = of(texts[i]);
      promise = 25;
      due("outcome() of " + texts[i], x.outcome(), want[i][0]);
      promise = 26;
      due("tells() of " + texts[i], x.tells(), want[i][1]);
      promise = 27;
      due("ends() of " + texts[i], x.ends(), want[i][2]);
      due("count(6)", x.count(6), 0);
    }
    promise = 26;
    // A hand of side 0 tires side 1 only if two are held: the winner tells the first set by numbers.
    HandsHeld x = of("hall must 1; person side 1 strength 2; person side 0 rod; person side 0 rod;"
        + "tires: if side = 0 then strength else strength - if others > 1 then 2 else held end end;");
    due("outcome()", x.outcome(), 1);
    due("ends()", x.ends(), 2);
    due("tells()", x.tells(), 6);
  }

  private static void seen() {
    promise = 28;
    HandsHeld x = of(THREE);
    seenRefused(x);
    fill(x, 0, 0, 3, 2);
    due("seen(0)", x.seen(0), 1);
    fill(x, 0, 0, NONE, NONE);
    due("seen(0)", x.seen(0), 4 * 8 + 4 * 4);
    fill(x, 0, 0, 5);
    due("seen(0)", x.seen(0), 0);
    fill(x, 0, 0, 0, 0, 0, 0, 0, 0, 0, 0);
    due("seen(0)", x.seen(0), 1);
    HandsHeld rods = of("hall must 0; person side 1 rod; person side 1 rod; person side 1 rod;"
        + "person side 1 rod; person side 1 rod;");
    fill(rods, 0, 3, -1, -1, -1, -1, -1, -1, -1, -1);
    due("seen(0)", rods.seen(0), 1L << 40);
    fill(rods, 0, 1, 2, 5, 0);
    due("seen(0)", rods.seen(0), 10);
    promise = 29;
    fill(x, 0, 1, 1, NONE, 2);
    due("seenBy(0, 0)", x.seenBy(0, 0), 1);
    due("seenBy(0, 1)", x.seenBy(0, 1), 0);
    due("seenBy(0, 2)", x.seenBy(0, 2), 3);
    due("seenBy(0, 3)", x.seenBy(0, 3), NONE);
    due("seenBy(0, -1)", x.seenBy(0, -1), -3);
    fill(x, 0, 1, 3, 3);
    due("seenBy(0, 0)", x.seenBy(0, 0), NONE);
    fill(x, 0, 1, 3, 2);
    due("seenBy(0, 0)", x.seenBy(0, 0), 7);
    due("seenBy(0, 1)", x.seenBy(0, 1), 5);
    due("count(6)", x.count(6), 0);
  }

  private static void seenRefused(HandsHeld x) {
    due("seen(0)", x.seen(0), -6);
    due("seenBy(0, -1)", x.seenBy(0, -1), -6);
    due("surely(0)", x.surely(0), -6);
    for (int tray = -1; tray < 5; tray += 5) {
      due("seen", x.seen(tray), -2);
      due("seenBy", x.seenBy(tray, -1), -2);
      due("surely", x.surely(tray), -2);
    }
    x.numbers(1, 0, 0);
    due("seen(1)", x.seen(1), -4);
    due("seenBy(1, -1)", x.seenBy(1, -1), -4);
    due("surely(1)", x.surely(1), -4);
    fill(x, 1, 0, 9, 9, 9, 9, 9, 9, 9, 9, 9);
    due("seen(1)", x.seen(1), -4);
    fill(x, 1, 0, 1, 6);
    due("seen(1)", x.seen(1), -3);
    due("seenBy(1, 0)", x.seenBy(1, 0), -3);
    due("surely(1)", x.surely(1), -3);
    fill(x, 1, 0, -2, 1);
    due("seen(1)", x.seen(1), -3);
  }

  private static void surely() {
    promise = 30;
    HandsHeld x = of(THREE);
    fill(x, 0, 0, 3);
    due("surely(0)", x.surely(0), 7);
    fill(x, 0, 0, 2);
    due("surely(0)", x.surely(0), 0);
    fill(x, 0, 0, 2, 2);
    due("surely(0)", x.surely(0), 5);
    fill(x, 0, 0, 5);
    due("surely(0)", x.surely(0), 0);
    fill(x, 0, 0, 3, 2, 1);
    due("surely(0)", x.surely(0), 7);
    HandsHeld weak = of("hall must 1; person side 0 strength 1; person side 0 strength 2;"
        + "tires: strength - held;");
    fill(weak, 0, 0, 1, 1);
    due("surely(0)", weak.surely(0), 2);
    fill(weak, 0, 0, 1, 1, 1);
    due("surely(0)", weak.surely(0), 3);
    fill(weak, 0, 0, 1, 1, 1, 1);
    due("surely(0)", weak.surely(0), 0);
  }

  private static final String COLD_LAW = "hall must 1; person side 0 strength 4; person side 1 rod;"
      + "tires: if held = 1 then strength - if cold > 6 then 2 else if cold > 3 then 1 else 0 end end"
      + " else if rod = 1 then if others * cold > 8 then 0 else strength end else strength + 1 end end;";

  private static void tired() {
    promise = 31;
    HandsHeld x = of(COLD_LAW);
    due("colds(0, 0)", x.colds(0, 0), -6);
    due("colds(0, 2)", x.colds(0, 2), -2);
    due("colds(0, -1)", x.colds(0, -1), -2);
    due("colds(4, 0)", x.colds(4, 0), -2);
    x.numbers(0, 0, 0);
    due("colds(0, 0)", x.colds(0, 0), -4);
    x.numbers(0, 0, 11);
    due("colds(0, 0)", x.colds(0, 0), -4);
    fill(x, 0, 0, 4, 5);
    due("colds(0, 0)", x.colds(0, 0), -3);
    fill(x, 0, 0, -1);
    due("colds(0, 0)", x.colds(0, 0), -3);
    fill(x, 0, 0, 2, 0, 1, 0, 1, 0, 1, 0, 1, 0);
    due("colds(0, 0)", x.colds(0, 0), 0x380);
    fill(x, 0, 0, 3);
    due("colds(0, 0)", x.colds(0, 0), 0x70);
    fill(x, 0, 0, 4, 4);
    due("colds(0, 0)", x.colds(0, 0), 0xf);
    fill(x, 0, 0, 1);
    due("colds(0, 0)", x.colds(0, 0), 0);
    x.cold(9);
    fill(x, 0, 0, 3, 2, 1, 0, 1, 0);
    due("colds(0, 0)", x.colds(0, 0), 0x70);
  }

  private static void attempts() {
    promise = 32;
    HandsHeld x = of(COLD_LAW);
    due("attempt(0, 0)", x.attempt(0, 0), -6);
    due("attempt(0, 2)", x.attempt(0, 2), -2);
    due("attempt(-1, 0)", x.attempt(-1, 0), -2);
    x.numbers(0, 0, 11);
    due("attempt(0, 0)", x.attempt(0, 0), -4);
    fill(x, 0, 0, 5);
    due("attempt(0, 0)", x.attempt(0, 0), -3);
    fill(x, 0, 0, 1);
    due("attempt(0, 0)", x.attempt(0, 0), NONE);
    // Colds 7, 8, 9: a hand held by person 0 alone tells 9 from the others.
    fill(x, 0, 0, 2);
    due("attempt(0, 0)", x.attempt(0, 0), 1);
    fill(x, 0, 0, 4);
    due("attempt(0, 0)", x.attempt(0, 0), 0);
    x.hour(1);
    due("count(6)", x.count(6), 1);
  }

  private static void chances() {
    promise = 33;
    HandsHeld x = of(THREE);
    due("chance(0, 0, 0)", x.chance(0, 0, 0), -6);
    due("chance(0, 2, 0)", x.chance(0, 2, 0), -2);
    due("chance(0, 0, 2)", x.chance(0, 0, 2), -2);
    due("chance(0, 0, -1)", x.chance(0, 0, -1), -2);
    due("chance(4, 0, 0)", x.chance(4, 0, 0), -2);
    x.numbers(0, 0, 0);
    due("chance(0, 0, 0)", x.chance(0, 0, 0), -4);
    x.numbers(0, 0, 7);
    due("chance(0, 0, 0)", x.chance(0, 0, 0), -4);
    fill(x, 0, 0, 1, 8);
    due("chance(0, 0, 0)", x.chance(0, 0, 0), -3);
    fill(x, 0, 0, -1);
    due("chance(0, 0, 0)", x.chance(0, 0, 0), -3);
    fill(x, 0, 0, 1);
    due("above", x.chance(0, 0, 0), 1);
    due("below", x.chance(0, 0, 1), 1);
    due("above", x.chance(0, 1, 0), 0);
    due("below", x.chance(0, 1, 1), 1);
    fill(x, 0, 0, 4, 4);
    due("above", x.chance(0, 1, 0), 9);
    due("below", x.chance(0, 1, 1), 10);
    // Each of the first five draws must leave person 0 strong enough.
    HandsHeld rod = of("hall must 1; person side 0 rod;");
    fill(rod, 0, 0, 1, 1, 1, 1, 1, 1);
    due("above", rod.chance(0, 0, 0), 59049);
    due("below", rod.chance(0, 0, 1), 100000);
    HandsHeld two = of("hall must 1; person side 0 rod; person side 0 rod;");
    fill(two, 0, 0, 3, 3, 3);
    due("above", two.chance(0, 0, 0), 49);
    due("below", two.chance(0, 0, 1), 50);
    // Without anybody on side 1 and 0 hands to hold it stands for sure.
    HandsHeld none = of("hall must 0; person side 0;");
    fill(none, 0, 0, 1, 1, 1, 1, 1, 1);
    due("above", none.chance(0, 1, 0), 1);
    due("below", none.chance(0, 1, 1), 1);
  }

  private static void means() {
    promise = 34;
    HandsHeld x = of(THREE);
    due("mean(0, 0)", x.mean(0, 0), -6);
    due("mean(0, 2)", x.mean(0, 2), -2);
    due("mean(0, -1)", x.mean(0, -1), -2);
    due("mean(-1, 0)", x.mean(-1, 0), -2);
    x.numbers(0, 0, 0);
    due("mean(0, 0)", x.mean(0, 0), -4);
    x.numbers(0, 0, 7);
    due("mean(0, 0)", x.mean(0, 0), -4);
    fill(x, 0, 0, 8);
    due("mean(0, 0)", x.mean(0, 0), -3);
    // Behind the hour 1 + 2 + 4; each is struck in one lot of ten: 7 - 0.7.
    fill(x, 0, 0, 1);
    due("above", x.mean(0, 0), 63);
    due("below", x.mean(0, 1), 10);
    HandsHeld empty = new HandsHeld();
    fill(empty, 0, 0, 0);
    due("above", empty.mean(0, 0), 0);
    due("below", empty.mean(0, 1), 1);
    // Who is struck rests one hour: 0.9 * (0.9 * 4 + 0.1 * 1).
    HandsHeld one = of("hall must 1; person side 0;");
    fill(one, 0, 0, 0, 0);
    due("above", one.mean(0, 0), 333);
    due("below", one.mean(0, 1), 100);
  }

  private static void trays() {
    promise = 35;
    HandsHeld x = new HandsHeld();
    due("numbers(4, 0, 1)", x.numbers(4, 0, 1), -2);
    due("numbers(-1, 0, 1)", x.numbers(-1, 0, 1), -2);
    due("numbers(0, 4, 50)", x.numbers(0, 4, 50), -2);
    due("numbers(0, -1, 1)", x.numbers(0, -1, 1), -2);
    due("numbers(0, 0, 41)", x.numbers(0, 0, 41), -3);
    due("numbers(0, 0, -1)", x.numbers(0, 0, -1), -3);
    due("write(0, 0, 0)", x.write(0, 0, 0), -6);
    due("numbers(0, 0, 40)", x.numbers(0, 0, 40), 0);
    due("write(0, 39, 1)", x.write(0, 39, 1), 1);
    due("numbers(0, 0, 41)", x.numbers(0, 0, 41), -3);
    due("write(0, 39, 2)", x.write(0, 39, 2), 2);
    fill(x, 1, 0, 60, 99);
    due("perform(1)", x.perform(1), 1);
    due("numbers(1, 0, 2)", x.numbers(1, 0, 2), 0);
    due("perform(1)", x.perform(1), 2);
    promise = 36;
    due("write(4, 0, 0)", x.write(4, 0, 0), -2);
    due("write(-1, 0, 0)", x.write(-1, 0, 0), -2);
    due("write(2, 0, 0)", x.write(2, 0, 0), -6);
    due("write(0, 40, 0)", x.write(0, 40, 0), -7);
    due("write(0, -1, 0)", x.write(0, -1, 0), -7);
    long v = 0x123456789abcdef0L;
    long[] cut = {(byte) 0xf0, (short) 0xdef0, 0x9abcdef0, v};
    for (int sort = 0; sort < 4; sort++) {
      x.numbers(3, sort, 1);
      due("write(3, 0, v)", x.write(3, 0, v), cut[sort]);
      due("write(3, 1, v)", x.write(3, 1, v), -7);
      due("write(3, 0, 127)", x.write(3, 0, 127), 127);
    }
    x.numbers(3, 0, 0);
    due("write(3, 0, 1)", x.write(3, 0, 1), -7);
    x.numbers(3, 0, 1);
    due("write(3, 0, 128)", x.write(3, 0, 128), -128);
    due("write(3, 0, 256)", x.write(3, 0, 256), 0);
    due("perform(3)", x.perform(3), 1);
  }

  private static void lists() {
    promise = 37;
    HandsHeld x = of(THREE);
    due("lists(0, 0)", x.lists(0, 0), -6);
    due("lists(0, 2)", x.lists(0, 2), -2);
    due("lists(4, 0)", x.lists(4, 0), -2);
    due("lists(-1, 0)", x.lists(-1, 0), -2);
    fill(x, 0, 0, 9, 9, 9, 9, 60);
    due("lists(0, 1)", x.lists(0, 1), 3);
    due("judge(0, 0)", x.judge(0, 0), 3);
    due("judge(0, 2)", x.judge(0, 2), 8);
    due("judge(0, 1)", x.judge(0, 1), 1);
    x.numbers(0, 0, 40);
    due("lists(0, 0)", x.lists(0, 0), 40);
    due("judge(0, 0)", x.judge(0, 0), NONE);
    x.numbers(0, 0, 0);
    due("lists(0, 0)", x.lists(0, 0), 0);
    x.numbers(0, 0, 2);
    due("lists(0, 1)", x.lists(0, 1), 2);
    due("perform(0)", x.perform(0), 2);
    due("person(2, 1)", x.person(2, 1), 1);
  }

  private static void images() {
    promise = 38;
    HandsHeld x = of(THREE);
    due("image(2)", x.image(2), -2);
    due("image(-1)", x.image(-1), -2);
    x.hour(7);
    x.cold(3);
    due("image(1)", x.image(1), 0);
    due("count(7)", x.count(7), 2);
    fill(x, 0, 0, 61);
    promise = 39;
    due("restore(2)", x.restore(2), -2);
    due("restore(-1)", x.restore(-1), -2);
    due("restore(0)", x.restore(0), -5);
    tell(x, "hall must 4; person side 1; counts: strength > 5; tires: 0;");
    due("image(0)", x.image(0), 0);
    x.hour(1);
    due("restore(1)", x.restore(1), 0);
    int[] want = {3, 1, 4, 3, 5, 3, 1, 0, 0, 4};
    for (int what = 0; what < 10; what++) {
      due("count(" + what + ")", x.count(what), want[what]);
    }
    due("undo(1)", x.undo(1), -3);
    due("hour(1)", x.hour(1), 1);
    due("holds(1)", x.holds(1), 3);
    due("perform(0)", x.perform(0), 1);
    Bounds.feed(x, "hall");
    due("restore(0)", x.restore(0), 0);
    due("count(8)", x.count(8), 20);
    due("count(0)", x.count(0), 1);
    due("count(1)", x.count(1), 4);
    due("person(0, 1)", x.person(0, 1), 4);
    due("person(0, 4)", x.person(0, 4), 0);
    due("by(0, 0)", x.by(0, 0), 0);
    due("count(7)", x.count(7), 0);
    due("restore(1)", x.restore(1), 0);
    due("an image stays", x.count(3), 3);
    tell(x, "hall must");
    due("restore(1)", x.restore(1), 0);
    due("fault(0)", x.fault(0), 2);
  }

  private static void counts() {
    promise = 40;
    HandsHeld x = of("hall must 3; person side 0 strength 0; person side 1 strength 2; cold 6;");
    x.hour(2);
    Bounds.feed(x, "1");
    int[] want = {2, 3, 2, 2, 3, 6, 1, 1, 20, 4};
    for (int what = 0; what < 10; what++) {
      due("count(" + what + ")", x.count(what), want[what]);
    }
    due("count(10)", x.count(10), NONE);
    due("count(-1)", x.count(-1), NONE);
  }

  private static void tires(String law, int held, int rests) {
    HandsHeld x = of("hall must 1; cold 3; person side 1 strength 2 weight 7; person side 0;"
        + "person side 1 strength 1; tires: " + law + ";");
    due("by(7, 0): " + law, x.by(7, 0), held);
    due("by(2, 0): " + law, x.by(2, 0), rests);
  }

  private static void truth(String law, int want) {
    HandsHeld x = of("hall must 1; cold 3; person side 1 strength 2 weight 7 rod; counts: " + law + ";");
    due(law, x.person(0, 4), want);
  }

  private static void laws() {
    promise = 8;
    tires("held", 1, 0);
    tires("mates", 1, 0);
    tires("others + 2", 3, 3);
    tires("strength", 2, 2);
    tires("weight - 4", 3, 3);
    tires("cold", 3, 3);
    tires("side + person", 1, 1);
    tires("7", 4, 4);
    tires("0 - 7", 0, 0);
    tires("5 - 2 - 1", 2, 2);
    tires("10 - 2 * 3 - 1", 3, 3);
    tires("10 - (2 * 3 - 1) - 1", 4, 4);
    tires("2 * (1 + held)", 4, 2);
    tires("if held = 1 then 1 else 3 end + 1", 2, 4);
    // Kept at a million each time: 999 * 999 * 999 is 1000000, and 999 * 999 is 998001.
    tires("999 * 999 * 999 - 999 * 999 - 999 * 2", 1, 1);
    tires("(0 - 999) * 999 * 999 + 999 * 999 + 999 * 2 + 2", 1, 1);
    tires("999 * 999 + 999 * 999 - 999 * 999 - 999 * 2", 1, 1);
    tires("0 - 999 * 999 - 999 * 999 + 999 * 999 + 999 * 2 + 3", 2, 2);
    promise = 7;
    truth("1 = 1", 1);
    truth("1 < 1", 0);
    truth("0 < 1", 1);
    truth("2 > 1", 1);
    truth("1 > 1", 0);
    truth("not 1 = 1", 0);
    truth("not not 1 = 1", 1);
    truth("1 = 1 or 1 = 1 and 1 = 2", 1);
    truth("[1 = 1 or 1 = 1] and 1 = 2", 0);
    truth("not 1 = 2 and 1 = 2", 0);
    truth("not [1 = 2 and 1 = 2]", 1);
    truth("1 = 2 or 1 = 2 or 1 = 1", 1);
    truth("person = 0 and side = 1 and strength = 2 and weight = 7 and rod = 1 and cold = 3", 1);
    truth("if rod = 1 then 5 else 6 end = 5", 1);
    truth("if rod = 0 then 5 else 6 end = 5", 0);
  }
}
