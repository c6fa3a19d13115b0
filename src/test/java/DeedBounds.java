/** Boundary cases of promises 8 to 15: hour, change, soup, cold, undo, judge, perform, winter. */
final class DeedBounds extends Bounds {
  private static final String TWO = "hall must 1; person side 0 strength 2;"
      + " person side 1 strength 2;";

  // ---- 8: hour

  static void promise08_noSuchSetIsToldAheadOfWhoCantHold() {
    for (int set : new int[] {8, 9, 10, 15, 16, 31, 32, 34, 40, 63, 64, -1, -2, LEAST, GREATEST}) {
      refuses("hour(" + set + ")", x -> x.hour(set), -11);
    }
  }

  static void promise08_aStrengthOf0CantHold() {
    for (int set : new int[] {2, 3, 6, 7}) {
      refuses("hour(" + set + ")", x -> x.hour(set), -12);
    }
  }

  static void promise08_aStrengthOf1CanHold() {
    HandsHeld x = of("hall must 1; person side 0 strength 1;");
    due("hour(1)", x.hour(1), 1);
    due("person(0, 1)", x.person(0, 1), 0);
    due("hour(1)", x.hour(1), -12);
  }

  static void promise08_nobodyCanHold() {
    HandsHeld x = of(TWO);
    due("hour(0)", x.hour(0), 0);
    due("strengths", strengths(x), 33);
    due("count(6)", x.count(6), 1);
  }

  static void promise08_allFiveCanHold() {
    HandsHeld x = of("hall must 5;" + people(5, "person side 0"));
    due("hour(31)", x.hour(31), 1);
    due("strengths", strengths(x), 33333);
    due("hour(32)", x.hour(32), -11);
  }

  static void promise08_withoutPeopleOnlyNobodyHolds() {
    HandsHeld x = new HandsHeld();
    due("hour(0)", x.hour(0), 0);
    due("count(6)", x.count(6), 1);
    refuses(HandsHeld::new, "hour(1)", y -> y.hour(1), -11);
  }

  static void promise08_aSideStandsByJustAsManyAsMustBeHeld() {
    String text = people(3, "person side 0") + people(2, "person side 1");
    int[][] want = {{0, 3, 3}, {1, 9, 3}, {1, 1, 1}, {1, 8, 2}, {1, 0, 0}, {2, 27, 3}, {2, 11, 1},
        {2, 25, 2}, {2, 9, 0}, {3, 31, 1}, {3, 7, 1}, {3, 3, 0}, {4, 31, 0}, {5, 31, 0}};
    for (int[] one : want) {
      HandsHeld x = of("hall must " + one[0] + ";" + text);
      due("hour(" + one[1] + ") of must " + one[0], x.hour(one[1]), one[2]);
    }
  }

  static void promise08_ifNoHandMustBeHeldBothStandWithNobody() {
    due("hour(0)", of("hall must 0;").hour(0), 3);
    due("hour(0)", of("hall must 0; person side 0 strength 0;").hour(0), 3);
  }

  static void promise08_onlyHandsThatCountCount() {
    HandsHeld x = of("hall must 1; person side 0 rod; person side 1; counts: rod = 0;");
    due("hour(3)", x.hour(3), 2);
  }

  static void promise08_handsCountAsAllIsAheadOfTheHour() {
    HandsHeld x = of("hall must 1; person side 0 strength 1; person side 1 strength 2;"
        + "counts: strength = 1;");
    due("hour(3)", x.hour(3), 1);
    x.soup(0);
    due("hour(3)", x.hour(3), 2);
  }

  static void promise08_strengthsStayWithin0And4() {
    HandsHeld x = of("hall must 1; person side 0; person side 0 strength 0;"
        + " person side 1 strength 1;");
    x.hour(4);
    due("strengths", strengths(x), 410);
    HandsHeld law = of("hall must 1; person side 0 strength 1; person side 1 strength 3;"
        + "tires: strength + 4 - held * 9;");
    law.hour(1);
    due("strengths", strengths(law), 4);
  }

  static void promise08_allAtOnceAsAllWasAhead() {
    HandsHeld x = of("hall must 1;" + people(5, "person side 0 strength 1") + "tires: mates;");
    x.hour(31);
    due("strengths", strengths(x), 44444);
    x.hour(1);
    due("strengths", strengths(x), 1111);
  }

  static void promise08_oneHourMoreEachTimeOnlyIfDone() {
    HandsHeld x = of(TWO);
    for (int i = 1; i <= 20; i++) {
      x.hour(0);
      due("count(6)", x.count(6), i);
    }
    x.hour(4);
    due("count(6)", x.count(6), 20);
  }

  static void promise08_upToTheLastOf512Calls() {
    HandsHeld x = new HandsHeld();
    for (int i = 1; i <= 511; i++) {
      due("hour(0)", x.hour(0), 0);
    }
    due("count(6)", x.count(6), 511);
  }

  // ---- 9: change

  static void promise09_noSuchPerson() {
    for (int p : new int[] {-1, -40, -39, 3, 4, 5, 9, 10, 12, 20, 22, LEAST, GREATEST}) {
      refuses("change(" + p + ")", x -> x.change(p), -11);
    }
    refuses(HandsHeld::new, "change(0)", x -> x.change(0), -11);
  }

  static void promise09_theFirstAndTheFifthCan() {
    HandsHeld x = of("hall must 1;" + people(5, "person side 0"));
    due("change(0)", x.change(0), 1);
    due("change(4)", x.change(4), 1);
    due("count(2)", x.count(2), 17);
    due("change(5)", x.change(5), -11);
  }

  static void promise09_from0To1AndBack() {
    HandsHeld x = of(TWO);
    due("change(0)", x.change(0), 1);
    due("count(2)", x.count(2), 3);
    due("change(0)", x.change(0), 0);
    due("count(2)", x.count(2), 2);
    due("change(1)", x.change(1), 0);
    due("count(2)", x.count(2), 0);
  }

  static void promise09_nothingElseIsAnother() {
    HandsHeld x = of(TWO + "cold 3;");
    x.change(1);
    due("strengths", strengths(x), 22);
    due("count(5)", x.count(5), 3);
    due("count(6)", x.count(6), 0);
    due("count(7)", x.count(7), 1);
  }

  static void promise09_aStrengthOf0MayChange() {
    due("change(0)", of("hall must 1; person side 1 strength 0;").change(0), 0);
  }

  // ---- 10: soup

  static void promise10_noSuchPerson() {
    for (int p : new int[] {-1, -10, -50, 3, 4, 5, 9, 10, 12, LEAST, GREATEST}) {
      refuses("soup(" + p + ")", x -> x.soup(p), -11);
    }
    refuses(HandsHeld::new, "soup(0)", x -> x.soup(0), -11);
  }

  static void promise10_theFirstAndTheFifthCan() {
    HandsHeld x = of("hall must 1;" + people(5, "person side 0 strength 1"));
    due("soup(0)", x.soup(0), 1);
    due("soup(4)", x.soup(4), 1);
    due("strengths", strengths(x), 41114);
    due("soup(5)", x.soup(5), -11);
  }

  static void promise10_fromEachStrengthTo4() {
    for (int strength = 0; strength <= 4; strength++) {
      HandsHeld x = of("hall must 1; person side 0 strength " + strength + ";");
      due("soup(0)", x.soup(0), strength);
      due("person(0, 1)", x.person(0, 1), 4);
      due("count(7)", x.count(7), 1);
      due("undo(1)", x.undo(1), 0);
      due("person(0, 1)", x.person(0, 1), strength);
    }
  }

  static void promise10_aRodAndOneUnderALawToo() {
    HandsHeld x = of("hall must 1; person side 0 strength 1 rod; tires: 0;");
    due("soup(0)", x.soup(0), 1);
    due("person(0, 1)", x.person(0, 1), 4);
    due("count(6)", x.count(6), 0);
  }

  // ---- 11: cold

  static void promise11_below0OrAbove9() {
    for (int n : new int[] {-1, -2, -10, -20, -60, 10, 11, 39, LEAST, GREATEST}) {
      refuses("cold(" + n + ")", x -> x.cold(n), -11);
    }
  }

  static void promise11_from0To9() {
    HandsHeld x = of(TWO);
    int was = 0;
    for (int n : new int[] {9, 0, 1, 8, 5}) {
      due("cold(" + n + ")", x.cold(n), was);
      due("count(5)", x.count(5), n);
      was = n;
    }
  }

  static void promise11_theSameColdIsADeedToo() {
    HandsHeld x = of(TWO + "cold 9;");
    due("cold(9)", x.cold(9), 9);
    due("count(7)", x.count(7), 1);
    due("undo(1)", x.undo(1), 0);
    due("count(5)", x.count(5), 9);
  }

  static void promise11_withoutPeopleToo() {
    HandsHeld x = new HandsHeld();
    due("cold(9)", x.cold(9), 0);
    due("cold(10)", x.cold(10), -11);
    due("count(5)", x.count(5), 9);
  }

  // ---- 12: undo

  static void promise12_nIs1To10() {
    for (int n : new int[] {0, -1, 11, 12, LEAST, GREATEST}) {
      refuses("undo(" + n + ")", x -> x.undo(n), -3);
      refuses(DeedBounds::elevenColds, "undo(" + n + ") of ten", x -> x.undo(n), -3);
    }
  }

  static void promise12_notMoreThanCanBe() {
    refuses("undo(5) of four", x -> x.undo(5), -3);
    refuses(HandsHeld::new, "undo(1) of none", x -> x.undo(1), -3);
    due("undo(4) of four", lived().undo(4), 0);
  }

  private static HandsHeld elevenColds() {
    HandsHeld x = of(TWO + "cold 9;");
    for (int i = 1; i <= 11; i++) {
      x.cold(i % 10);
    }
    return x;
  }

  static void promise12_tenAtMostTheEldestIsForgotten() {
    HandsHeld x = elevenColds();
    due("count(7)", x.count(7), 10);
    due("undo(10)", x.undo(10), 0);
    due("count(5)", x.count(5), 1);
    due("undo(1)", x.undo(1), -3);
  }

  static void promise12_justTenAreKept() {
    HandsHeld x = of(TWO + "cold 9;");
    for (int i = 0; i < 10; i++) {
      due("count(7)", x.count(7), i);
      x.cold(i);
    }
    due("count(7)", x.count(7), 10);
    due("undo(10)", x.undo(10), 0);
    due("count(5)", x.count(5), 9);
  }

  static void promise12_manyMoreThanTenAreForgottenOneByOne() {
    HandsHeld x = of(TWO);
    for (int i = 1; i <= 37; i++) {
      x.cold(i % 10);
    }
    for (int i = 1; i <= 10; i++) {
      due("undo(1)", x.undo(1), 10 - i);
      due("count(5)", x.count(5), (37 - i) % 10);
    }
    due("undo(1)", x.undo(1), -3);
  }

  static void promise12_theLatestFirst() {
    HandsHeld x = of(TWO);
    x.cold(5);
    x.cold(6);
    x.cold(7);
    due("undo(1)", x.undo(1), 2);
    due("count(5)", x.count(5), 6);
    due("undo(2)", x.undo(2), 0);
    due("count(5)", x.count(5), 0);
  }

  static void promise12_sidesStrengthsColdAndHoursComeBack() {
    HandsHeld x = of(TWO + "cold 3;");
    x.hour(3);
    x.hour(1);
    x.change(0);
    x.soup(1);
    x.cold(8);
    due("undo(5)", x.undo(5), 0);
    due("strengths", strengths(x), 22);
    due("count(2)", x.count(2), 2);
    due("count(5)", x.count(5), 3);
    due("count(6)", x.count(6), 0);
  }

  static void promise12_eachCallAsAWhole() {
    HandsHeld x = of(TWO);
    tray(x, 0, 0, 3, 40, 51, 69, 1);
    due("perform(0)", x.perform(0), 5);
    int done = x.winter(1, 40);
    due("winter", done > 1 ? 1 : 0, 1);
    due("count(7)", x.count(7), 2);
    due("undo(1)", x.undo(1), 1);
    due("strengths", strengths(x), 4);
    due("count(6)", x.count(6), 2);
    due("undo(1)", x.undo(1), 0);
    due("strengths", strengths(x), 22);
    due("count(2)", x.count(2), 2);
    due("count(5)", x.count(5), 0);
    due("count(6)", x.count(6), 0);
  }

  static void promise12_callsThatDidNothingAreNotUndone() {
    HandsHeld x = of(TWO);
    x.cold(4);
    x.hour(4);
    x.change(2);
    x.soup(-1);
    x.cold(10);
    x.undo(2);
    HandsHeld weak = of("hall must 1; person side 0 strength 0;");
    due("hour(1)", weak.hour(1), -12);
    due("count(7)", weak.count(7), 0);
    due("undo(1)", weak.undo(1), -3);
    tray(x, 0, 0, 4, 3);
    due("perform(0)", x.perform(0), 0);
    x.numbers(1, 0, 0);
    due("perform(1)", x.perform(1), 0);
    x.winter(1, 0);
    x.judge(0, 0);
    x.image(0);
    x.lists(0, 0);
    due("count(7)", x.count(7), 1);
    due("undo(1)", x.undo(1), 0);
    due("count(5)", x.count(5), 0);
  }

  static void promise12_whatIsNoDeedStays() {
    HandsHeld x = of(TWO);
    x.cold(4);
    tray(x, 0, 0, 61);
    x.image(1);
    feed(x, "hall");
    due("undo(1)", x.undo(1), 0);
    due("count(8)", x.count(8), 20);
    due("perform(0)", x.perform(0), 1);
    due("restore(1)", x.restore(1), 0);
    due("count(5)", x.count(5), 4);
  }

  static void promise12_behindUndoingDeedsAreKeptAnew() {
    HandsHeld x = elevenColds();
    due("undo(4)", x.undo(4), 6);
    for (int i = 0; i < 5; i++) {
      x.hour(0);
    }
    due("count(7)", x.count(7), 10);
    due("undo(10)", x.undo(10), 0);
    due("count(5)", x.count(5), 2);
    due("count(6)", x.count(6), 0);
  }

  // ---- 13: judge

  static void promise13_noSuchTrayOrQuestionIsToldAheadOfAMissingTray() {
    for (int tray : new int[] {-1, 4, LEAST, GREATEST}) {
      refuses("judge(" + tray + ", 0)", x -> x.judge(tray, 0), -2);
    }
    for (int what : new int[] {-1, 4, LEAST, GREATEST}) {
      refuses("judge(0, " + what + ")", x -> x.judge(0, what), -2);
      refuses("judge(2, " + what + ")", x -> x.judge(2, what), -2);
    }
  }

  static void promise13_aMissingTray() {
    for (int what = 0; what < 4; what++) {
      int asked = what;
      refuses("judge(2, " + what + ")", x -> x.judge(2, asked), -6);
    }
  }

  static void promise13_everyTrayCanBeJudged() {
    for (int tray = 0; tray < 4; tray++) {
      HandsHeld x = tray(of(TWO), tray, 0, 60, 4);
      due("judge(" + tray + ", 0)", x.judge(tray, 0), 1);
    }
  }

  static void promise13_anEmptyTray() {
    HandsHeld x = of(TWO);
    x.numbers(0, 0, 0);
    int[] want = {NONE, 0, 4, 2};
    for (int what = 0; what < 4; what++) {
      due("judge(0, " + what + ")", x.judge(0, what), want[what]);
    }
  }

  static void promise13_allFortyDeedsOfAFullTray() {
    HandsHeld x = of(TWO);
    x.numbers(0, 0, 40);
    int[] want = {NONE, 0, 8, 2};
    for (int what = 0; what < 4; what++) {
      due("judge(0, " + what + ")", x.judge(0, what), want[what]);
    }
    x.write(0, 39, 70);
    due("judge(0, 0)", x.judge(0, 0), 39);
    due("judge(0, 1)", x.judge(0, 1), 1);
    x.write(0, 0, 4);
    due("judge(0, 0)", x.judge(0, 0), 0);
    due("judge(0, 2)", x.judge(0, 2), 4);
    due("judge(0, 3)", x.judge(0, 3), 2);
  }

  private static void deed(String hall, long v, int why) {
    HandsHeld x = tray(of(hall), 0, 3, v);
    due("judge(0, 0) of " + v, x.judge(0, 0), why == 0 ? NONE : 0);
    due("judge(0, 1) of " + v, x.judge(0, 1), why);
  }

  static void promise13_setsAre0To31AsFarAsThereArePeople() {
    String five = "hall must 1;" + people(5, "person side 0");
    String four = "hall must 1;" + people(4, "person side 0");
    deed(five, 0, 0);
    deed(five, 31, 0);
    deed(five, 32, 1);
    deed(five, 39, 1);
    deed(five, -1, 1);
    deed(four, 15, 0);
    deed(four, 16, 1);
    deed(four, 31, 1);
    deed("hall must 1;", 0, 0);
    deed("hall must 1;", 1, 1);
  }

  static void promise13_changesAre40To49AsFarAsThereArePeople() {
    String five = "hall must 1;" + people(5, "person side 0");
    deed(five, 40, 0);
    deed(five, 44, 0);
    deed(five, 45, 1);
    deed(five, 49, 1);
    deed(TWO, 41, 0);
    deed(TWO, 42, 1);
    deed("hall must 1;", 40, 1);
    HandsHeld x = tray(of(five), 0, 0, 44);
    due("judge(0, 3)", x.judge(0, 3), 16);
  }

  static void promise13_soupsAre50To59AsFarAsThereArePeople() {
    String five = "hall must 1;" + people(5, "person side 0 strength 1");
    deed(five, 50, 0);
    deed(five, 54, 0);
    deed(five, 55, 1);
    deed(five, 59, 1);
    deed(TWO, 51, 0);
    deed(TWO, 52, 1);
    deed("hall must 1;", 50, 1);
    HandsHeld x = tray(of(five), 0, 0, 50);
    due("judge(0, 2)", x.judge(0, 2), 8);
    due("judge(0, 3)", x.judge(0, 3), 0);
  }

  static void promise13_coldsAre60To69() {
    deed("hall must 1;", 60, 0);
    deed("hall must 1;", 69, 0);
    deed("hall must 1;", 70, 1);
    deed("hall must 1;", 127, 1);
    String law = "hall must 1; person side 0; tires: cold;";
    due("judge(0, 2)", tray(of(law), 0, 0, 60, 0).judge(0, 2), 0);
    due("judge(0, 2)", tray(of(law), 0, 0, 63, 0).judge(0, 2), 3);
    due("judge(0, 2)", tray(of(law), 0, 0, 69, 0).judge(0, 2), 4);
  }

  static void promise13_greatNumbersAreNoDeeds() {
    for (long v : new long[] {256, 300, 65536, 1L << 32, (1L << 32) + 60, -(1L << 32),
        Long.MAX_VALUE, Long.MIN_VALUE, Integer.MIN_VALUE, -40, -60}) {
      deed(TWO, v, 1);
    }
  }

  static void promise13_whyNot() {
    deed("hall must 1; person side 0 strength 0;", 1, 2);
    deed("hall must 1; person side 0 strength 1;", 1, 0);
    deed("hall must 1; person side 0 strength 0;", 3, 1);
    deed("hall must 1; person side 0 strength 0;", 2, 1);
  }

  static void promise13_behindTheDeedsAheadOfTheFirstThatCantBe() {
    HandsHeld x = tray(of(TWO), 0, 0, 1, 1, 40, 1, 51, 41);
    due("judge(0, 0)", x.judge(0, 0), 3);
    due("judge(0, 1)", x.judge(0, 1), 2);
    due("judge(0, 2)", x.judge(0, 2), 4);
    due("judge(0, 3)", x.judge(0, 3), 3);
  }

  static void promise13_nothingIsDone() {
    for (int what = 0; what < 4; what++) {
      int asked = what;
      HandsHeld x = tray(of(TWO), 0, 0, 3, 40, 51, 69, 70);
      x.judge(0, asked);
      due("strengths", strengths(x), 22);
      due("count(2)", x.count(2), 2);
      due("count(5)", x.count(5), 0);
      due("count(6)", x.count(6), 0);
      due("count(7)", x.count(7), 0);
    }
  }

  // ---- 14: perform

  static void promise14_noSuchTray() {
    for (int tray : new int[] {-1, 4, LEAST, GREATEST}) {
      refuses("perform(" + tray + ")", x -> x.perform(tray), -2);
    }
  }

  static void promise14_aMissingTray() {
    refuses("perform(2)", x -> x.perform(2), -6);
  }

  static void promise14_everyTrayCanBeDone() {
    for (int tray = 0; tray < 4; tray++) {
      HandsHeld x = tray(of(TWO), tray, tray, 61 + tray);
      due("perform(" + tray + ")", x.perform(tray), 1);
      due("count(5)", x.count(5), 1 + tray);
    }
  }

  static void promise14_anEmptyTrayDoesNothing() {
    HandsHeld x = of(TWO);
    x.numbers(0, 0, 0);
    due("perform(0)", x.perform(0), 0);
    due("count(7)", x.count(7), 0);
  }

  static void promise14_theFirstCantBe() {
    HandsHeld x = tray(of(TWO), 0, 0, 4, 1, 61);
    due("perform(0)", x.perform(0), 0);
    due("strengths", strengths(x), 22);
    due("count(5)", x.count(5), 0);
    due("count(7)", x.count(7), 0);
  }

  static void promise14_tillOneCantBe() {
    HandsHeld x = tray(of(TWO), 0, 0, 1, 61, 1, 1, 62);
    due("perform(0)", x.perform(0), 3);
    due("strengths", strengths(x), 4);
    due("count(5)", x.count(5), 1);
    due("count(6)", x.count(6), 2);
    due("count(7)", x.count(7), 1);
  }

  static void promise14_onlyTheLastCantBe() {
    HandsHeld x = tray(of(TWO), 0, 0, 0, 0, 32);
    due("perform(0)", x.perform(0), 2);
    due("count(6)", x.count(6), 2);
  }

  static void promise14_allFortyOfAFullTray() {
    HandsHeld x = of(TWO);
    x.numbers(0, 0, 40);
    due("perform(0)", x.perform(0), 40);
    due("count(6)", x.count(6), 40);
    due("count(7)", x.count(7), 1);
    due("undo(1)", x.undo(1), 0);
    due("count(6)", x.count(6), 0);
  }

  static void promise14_deedsOfAllSortsAtTheirBounds() {
    HandsHeld x = of("hall must 1;" + people(5, "person side 0 strength 1"));
    tray(x, 0, 0, 31, 50, 54, 40, 44, 60, 69, 17);
    due("perform(0)", x.perform(0), 8);
    due("strengths", strengths(x), 31113);
    due("count(2)", x.count(2), 17);
    due("count(5)", x.count(5), 9);
    due("count(6)", x.count(6), 2);
    for (long bad : new long[] {32, 39, 45, 49, 55, 59, 70, -1}) {
      tray(x, 1, 0, bad);
      due("perform(1) of " + bad, x.perform(1), 0);
    }
  }

  static void promise14_justOneDeedIsUndoneToo() {
    HandsHeld x = tray(of(TWO), 0, 0, 65);
    due("perform(0)", x.perform(0), 1);
    due("count(7)", x.count(7), 1);
    due("undo(1)", x.undo(1), 0);
    due("count(5)", x.count(5), 0);
    tray(x, 0, 0, 1, 70);
    due("perform(0)", x.perform(0), 1);
    due("count(7)", x.count(7), 1);
    due("undo(1)", x.undo(1), 0);
    due("strengths", strengths(x), 22);
  }

  // ---- 15: winter

  static void promise15_timesAre1To40() {
    for (int times : new int[] {0, -1, 41, 42, LEAST, GREATEST}) {
      refuses("winter(7, " + times + ")", x -> x.winter(7, times), -3);
    }
    HandsHeld x = of("hall must 1;" + people(5, "person side 0"));
    due("winter(7, 1)", x.winter(7, 1) >= 0 ? 1 : 0, 1);
    due("winter(7, 40)", x.winter(7, 40) >= 0 ? 1 : 0, 1);
  }

  /** What a winter does, drawn in longs and done call by call; how many could be. */
  private static int byHand(HandsHeld x, int seed, int times) {
    long told = seed & 0xffffffffL;
    int done = 0;
    for (int i = 0; i < times; i++) {
      told = (1103515245L * told + 12345) % (1L << 32);
      long kind = (told >> 16) % 6;
      told = (1103515245L * told + 12345) % (1L << 32);
      int v = (int) (told >> 16);
      int answer = kind < 4 ? x.hour(v % 32) : kind == 4 ? x.change(v % 5) : x.soup(v % 5);
      done += answer < 0 ? 0 : 1;
    }
    return done;
  }

  private static void winter(String text, int seed, int times) {
    HandsHeld x = of(text);
    HandsHeld hand = of(text);
    due("winter(" + seed + ", " + times + ")", x.winter(seed, times), byHand(hand, seed, times));
    due("strengths", strengths(x), strengths(hand));
    due("count(2)", x.count(2), hand.count(2));
    due("count(6)", x.count(6), hand.count(6));
  }

  static void promise15_seedsAtTheBoundsOfAnInt() {
    String five = "hall must 1;" + people(5, "person side 0");
    for (int seed : new int[] {0, 1, -1, LEAST, LEAST + 1, GREATEST, GREATEST - 1, 65535, 65536}) {
      winter(five, seed, 1);
      winter(five, seed, 2);
      winter(five, seed, 39);
      winter(five, seed, 40);
    }
  }

  static void promise15_drawsWrapAround() {
    // -> the first draw from 3 is 3310558080, negative as an int: 50515 modulo 6 is 1, an hour.
    long first = 1103515245L * 3 + 12345;
    due("the first draw", first, 3310558080L);
    due("its kind", (first >> 16) % 6, 1);
    for (int seed = -40; seed < 40; seed++) {
      winter("hall must 1;" + people(4, "person side 1 strength 2"), seed * 12345677, 7);
    }
  }

  static void promise15_everyKindOfDeedIsDrawn() {
    // Of one draw each: 0 to 3 an hour, 4 a change of side, 5 soup.
    String five = "hall must 1;" + people(5, "person side 0 strength 3");
    boolean[] found = new boolean[6];
    for (int seed = 0; seed < 60; seed++) {
      long told = (1103515245L * seed + 12345) % (1L << 32);
      int kind = (int) ((told >> 16) % 6);
      found[kind] = true;
      HandsHeld x = of(five);
      due("winter(" + seed + ", 1)", x.winter(seed, 1), 1);
      due("hours", x.count(6), kind < 4 ? 1 : 0);
      due("changed", Integer.bitCount(x.count(2)), kind == 4 ? 1 : 0);
      due("fed", kind == 5 ? x.count(3) : 16, 16);
    }
    for (int kind = 0; kind < 6; kind++) {
      due("kind " + kind, found[kind] ? 1 : 0, 1);
    }
  }

  static void promise15_whatCantBeIsPassedOver() {
    for (int seed = 0; seed < 20; seed++) {
      winter("hall must 1; person side 0 strength 1;", seed, 40);
      winter("hall must 1;", seed, 40);
    }
  }

  static void promise15_oneThatCouldDoNothingCantBeUndone() {
    boolean found = false;
    for (int seed = 0; seed < 40; seed++) {
      HandsHeld x = of("hall must 1; person side 0 strength 1;");
      int done = x.winter(seed, 1);
      found |= done == 0;
      due("count(7) of " + seed, x.count(7), done);
    }
    due("some could do nothing", found ? 1 : 0, 1);
  }

  static void promise15_itIsUndoneAsAWhole() {
    HandsHeld x = of("hall must 1;" + people(5, "person side 0") + "cold 2;");
    due("winter", x.winter(5, 40) > 1 ? 1 : 0, 1);
    due("count(7)", x.count(7), 1);
    due("undo(1)", x.undo(1), 0);
    due("strengths", strengths(x), 44444);
    due("count(2)", x.count(2), 0);
    due("count(6)", x.count(6), 0);
  }
}
