/** Boundary cases of promises 1 to 7 but for what a text may tell: new objects, feed, counted. */
final class HallBounds extends Bounds {
  private static final String FIVE = "hall must 1;" + people(5, "person side 0");

  // ---- 1: a new object

  static void promise01_thereAreNoPeople() {
    HandsHeld x = new HandsHeld();
    due("count(0)", x.count(0), 0);
    due("person(0, 0)", x.person(0, 0), -2);
    due("count(2)", x.count(2), 0);
    due("count(3)", x.count(3), 0);
    due("count(4)", x.count(4), 0);
  }

  static void promise01_withoutATextOneHandMustBeHeld() {
    HandsHeld x = new HandsHeld();
    due("count(1)", x.count(1), 1);
    due("hour(0)", x.hour(0), 0);
    due("holds(0)", x.holds(0), 0);
    due("holds(1)", x.holds(1), 0);
  }

  static void promise01_withoutATextTheColdIs0() {
    HandsHeld x = new HandsHeld();
    due("count(5)", x.count(5), 0);
    due("cold(7)", x.cold(7), 0);
  }

  static void promise01_nothingWasDone() {
    HandsHeld x = new HandsHeld();
    due("count(6)", x.count(6), 0);
    due("count(7)", x.count(7), 0);
    due("undo(1)", x.undo(1), -3);
  }

  static void promise01_theTapeIsEmpty() {
    HandsHeld x = new HandsHeld();
    due("count(8)", x.count(8), 0);
    due("hall(1)", x.hall(1), -3);
    due("feed", x.feed(0, 0, 0, 0, 0), 20);
  }

  static void promise01_noTextWasRead() {
    HandsHeld x = new HandsHeld();
    due("fault(0)", x.fault(0), 0);
    due("fault(1)", x.fault(1), NONE);
    due("count(9)", x.count(9), 0);
  }

  static void promise01_allTraysAreMissing() {
    HandsHeld x = new HandsHeld();
    for (int tray = 0; tray < 4; tray++) {
      due("perform(" + tray + ")", x.perform(tray), -6);
      due("write(" + tray + ", 0, 0)", x.write(tray, 0, 0), -6);
    }
  }

  static void promise01_noImageWasMade() {
    HandsHeld x = new HandsHeld();
    due("restore(0)", x.restore(0), -5);
    due("restore(1)", x.restore(1), -5);
  }

  static void promise01_noneIsLessOne() {
    due("NONE", HandsHeld.NONE, -1);
  }

  static void promise01_oneObjectHasNothingOfAnother() {
    HandsHeld other = lived();
    HandsHeld x = new HandsHeld();
    other.hour(1);
    due("count(0)", x.count(0), 0);
    due("count(8)", x.count(8), 0);
    due("judge(0, 0)", x.judge(0, 0), -6);
    due("restore(0)", x.restore(0), -5);
    due("fault(0)", x.fault(0), 0);
  }

  // ---- 2: feed

  static void promise02_theTapeTakesNineHundredBytes() {
    HandsHeld x = new HandsHeld();
    for (int i = 1; i <= 45; i++) {
      due("feed", x.feed(i, -i, LEAST, GREATEST, 0), 20 * i);
      due("count(8)", x.count(8), 20 * i);
    }
  }

  static void promise02_moreThanNineHundredAreRefused() {
    Maker full = () -> {
      HandsHeld x = lived();
      for (int i = 0; i < 45 && x.count(8) < 900; i++) {
        x.feed(0x20202020, 0x20202020, 0x20202020, 0x20202020, 0x20202020);
      }
      return x;
    };
    refuses(full, "feed", x -> x.feed(0x20202020, 0x20202020, 0x20202020, 0x20202020, 0x21212121),
        -5);
  }

  static void promise02_theLastTwentyBytesThatFitAreTaken() {
    HandsHeld x = new HandsHeld();
    String text = "hall must 1;" + " ".repeat(887) + "!";
    feed(x, text.substring(0, 880));
    due("count(8)", x.count(8), 880);
    feed(x, text.substring(880));
    due("count(8)", x.count(8), 900);
    due("hall(900)", x.hall(900), -31);
    due("fault(1)", x.fault(1), 899);
  }

  static void promise02_theHighestByteOfEachIntComesFirst() {
    for (int i = 0; i < 20; i++) {
      for (int bad : new int[] {1, 127, 128, 255}) {
        int[] five = {0x20202020, 0x20202020, 0x20202020, 0x20202020, 0x20202020};
        int shift = 24 - 8 * (i % 4);
        five[i / 4] = five[i / 4] & ~(255 << shift) | bad << shift;
        HandsHeld x = new HandsHeld();
        x.feed(five[0], five[1], five[2], five[3], five[4]);
        due("hall(20)", x.hall(20), -31);
        due("fault(1) of byte " + bad + " at " + i, x.fault(1), i);
      }
    }
  }

  static void promise02_bytesComeBehindThoseThatAreThere() {
    HandsHeld x = new HandsHeld();
    x.feed(0x20202020, 0x20202020, 0x20202020, 0x20202020, 0x20202020);
    x.feed(0x68616c6c, 0x206d7573, 0x7420343b, 0x636f6c64, 0x20332020);
    x.feed(0x3b202020, 0x20202020, 0x20202020, 0x20202020, 0x20202020);
    due("hall(60)", x.hall(60), 2);
    due("count(1)", x.count(1), 4);
    due("count(5)", x.count(5), 3);
  }

  static void promise02_behindHallTheTapeTakesNineHundredAgain() {
    HandsHeld x = new HandsHeld();
    for (int i = 0; i < 45; i++) {
      x.feed(0, 0, 0, 0, 0);
    }
    x.hall(1);
    for (int i = 1; i <= 45; i++) {
      due("feed", x.feed(0, 0, 0, 0, 0), 20 * i);
    }
    due("feed", x.feed(0, 0, 0, 0, 0), -5);
  }

  // ---- 3: hall, its n and what becomes of all else

  static void promise03_noByteIsTheEmptyText() {
    HandsHeld x = new HandsHeld();
    due("hall(0)", x.hall(0), -32);
    due("fault(1)", x.fault(1), 0);
    feed(x, "hall must 1;");
    due("hall(0)", x.hall(0), -32);
    due("fault(1)", x.fault(1), 0);
    due("count(8)", x.count(8), 0);
  }

  static void promise03_nBelow0IsRefusedAndTheTapeStays() {
    refuses("hall(-1)", x -> x.hall(-1), -3);
    refuses("hall(least)", x -> x.hall(LEAST), -3);
  }

  static void promise03_nAboveWhatThereIsIsRefusedAndTheTapeStays() {
    refuses("hall(41)", x -> x.hall(41), -3);
    refuses("hall(900)", x -> x.hall(900), -3);
    refuses("hall(901)", x -> x.hall(901), -3);
    refuses("hall(greatest)", x -> x.hall(GREATEST), -3);
  }

  static void promise03_ofAnEmptyTapeNoByteCanBeRead() {
    refuses(HandsHeld::new, "hall(1)", x -> x.hall(1), -3);
  }

  static void promise03_allThatThereIsCanBeRead() {
    HandsHeld x = new HandsHeld();
    feed(x, "hall must 4; cold 7;");
    due("count(8)", x.count(8), 20);
    due("hall(20)", x.hall(20), 2);
    due("count(5)", x.count(5), 7);
  }

  static void promise03_onlyTheFirstBytesAreTheHallAndTheTapeIsEmptyThen() {
    HandsHeld x = new HandsHeld();
    feed(x, "hall must 4; cold 7;");
    due("hall(12)", x.hall(12), 1);
    due("count(5)", x.count(5), 0);
    due("count(8)", x.count(8), 0);
    due("hall(1)", x.hall(1), -3);
  }

  static void promise03_aTextOfNineHundredBytesIsRead() {
    String lines = "hall must 1;" + "cold 1;".repeat(126);
    HandsHeld x = new HandsHeld();
    due("hall", tell(x, lines + " ".repeat(5) + "\n"), 127);
    due("count(9)", x.count(9), 127);
    String law = "hall must 1;tires:1" + "+1".repeat(440) + ";";
    due("length", law.length(), 900);
    due("hall", tell(x, law), 2);
    due("hall", tell(x, law.substring(0, 899) + " "), -32);
    due("fault(1)", x.fault(1), 900);
  }

  static void promise03_theTextIsTheHallWhole() {
    HandsHeld x = lived();
    x.hall(0);
    due("hall", tell(x, "hall must 0;"), 1);
    int[] want = {0, 0, 0, 0, 0, 0, 0, 0, 0, 1};
    for (int what = 0; what < 10; what++) {
      due("count(" + what + ")", x.count(what), want[what]);
    }
    due("person(0, 0)", x.person(0, 0), -2);
  }

  static void promise03_hoursAre0AndNothingCanBeUndone() {
    HandsHeld x = of("hall must 1; person side 0;");
    for (int i = 0; i < 10; i++) {
      x.hour(0);
    }
    due("count(7)", x.count(7), 10);
    due("hall", tell(x, "hall must 1; person side 0 strength 2;"), 2);
    due("count(6)", x.count(6), 0);
    due("count(7)", x.count(7), 0);
    due("undo(1)", x.undo(1), -3);
    due("person(0, 1)", x.person(0, 1), 2);
  }

  static void promise03_traysAndImagesStay() {
    HandsHeld x = lived();
    tell(x, "hall must 3; person side 1;");
    due("a tray stays", x.judge(0, 0), 2);
    due("a tray stays", x.write(3, 39, 7), 7);
    due("a tray is missing still", x.judge(2, 0), -6);
    due("an image stays", x.restore(0), 0);
    due("strengths", strengths(x), 203);
    due("no image still", x.restore(1), -5);
  }

  static void promise03_lawsOfAnOlderHallAreGone() {
    HandsHeld x = of("hall must 1; person side 0 strength 2 weight 5 rod; tires: 0;"
        + " counts: 1 = 2;");
    due("by(0, 0)", x.by(0, 0), 0);
    due("person(0, 4)", x.person(0, 4), 0);
    tell(x, "hall must 1; person side 0 strength 2;");
    due("by(0, 0)", x.by(0, 0), 3);
    due("person(0, 2)", x.person(0, 2), 1);
    due("person(0, 3)", x.person(0, 3), 0);
    due("person(0, 4)", x.person(0, 4), 1);
    due("holds(0)", x.holds(0), 2);
  }

  static void promise03_allStaysWithAFault() {
    String[] faulty = {"hall must 0; person side 1; !", "hall must 0; person side 1; cold",
        "hall must 0; person side 1 strength 1; tires: 0; counts: 1 = 2; cold 10;",
        "hall must 5;" + people(6, "person side 1 rod")};
    for (int i = 0; i < faulty.length; i++) {
      HandsHeld x = lived();
      HandsHeld twin = lived();
      x.hall(0);
      twin.hall(0);
      due("hall", tell(x, faulty[i]), -31 - i);
      for (int what = 0; what < 10; what++) {
        due("count(" + what + ")", x.count(what), twin.count(what));
      }
      for (int what = 0; what < 5; what++) {
        due("person(2, " + what + ")", x.person(2, what), twin.person(2, what));
      }
      due("by(1, 0)", x.by(1, 0), 1);
      due("undo(4)", x.undo(4), 0);
      due("strengths", strengths(x), 312);
      due("perform(0)", x.perform(0), 3);
      due("restore(0)", x.restore(0), 0);
      due("strengths", strengths(x), 203);
    }
  }

  static void promise03_withAFaultTheTapeIsEmptyToo() {
    HandsHeld x = new HandsHeld();
    feed(x, "hall must 6; cold 7;");
    due("hall(12)", x.hall(12), -33);
    due("count(8)", x.count(8), 0);
    due("feed", x.feed(0, 0, 0, 0, 0), 20);
  }

  static void promise03_theFaultIsToldBelowLess30() {
    HandsHeld x = new HandsHeld();
    due("kind 1", tell(x, "!"), -31);
    due("kind 2", tell(x, ";"), -32);
    due("kind 3", tell(x, "hall must 6"), -33);
    due("kind 4", tell(x, "hall must 1;tires:((((((("), -34);
  }

  // ---- 5: person

  static void promise05_noPersonBelow0OrBehindTheLast() {
    for (int p : new int[] {-1, 3, 4, 5, 31, 32, LEAST, GREATEST}) {
      for (int what = 0; what < 5; what++) {
        int asked = what;
        refuses("person(" + p + ", " + what + ")", x -> x.person(p, asked), -2);
      }
    }
  }

  static void promise05_theFirstAndTheFifthCanBeAsked() {
    HandsHeld x = of("hall must 1; person side 1 strength 3;" + people(3, "person side 0")
        + "person side 1 strength 2 weight 7 rod;");
    due("person(0, 0)", x.person(0, 0), 1);
    due("person(0, 1)", x.person(0, 1), 3);
    int[] want = {1, 2, 7, 1, 1};
    for (int what = 0; what < 5; what++) {
      due("person(4, " + what + ")", x.person(4, what), want[what]);
    }
    due("person(5, 0)", x.person(5, 0), -2);
  }

  static void promise05_nothingElseCanBeAsked() {
    for (int what : new int[] {-1, 5, 6, LEAST, GREATEST}) {
      refuses("person(0, " + what + ")", x -> x.person(0, what), -2);
      refuses("person(2, " + what + ")", x -> x.person(2, what), -2);
    }
  }

  static void promise05_withoutPeopleThereIsNone() {
    refuses(HandsHeld::new, "person(0, 1)", x -> x.person(0, 1), -2);
  }

  static void promise05_sidesAndStrengthsAtTheirBounds() {
    HandsHeld x = of("hall must 1; person side 0 strength 0; person side 1 strength 4;");
    due("person(0, 0)", x.person(0, 0), 0);
    due("person(0, 1)", x.person(0, 1), 0);
    due("person(1, 0)", x.person(1, 0), 1);
    due("person(1, 1)", x.person(1, 1), 4);
  }

  static void promise05_weightsAtTheirBounds() {
    HandsHeld x = of("hall must 1; person side 0 weight 0; person side 1 weight 9;");
    due("person(0, 2)", x.person(0, 2), 0);
    due("person(1, 2)", x.person(1, 2), 9);
  }

  static void promise05_aRodIs1ElseIts0() {
    HandsHeld x = of("hall must 1; person side 0; person side 1 rod;");
    due("person(0, 3)", x.person(0, 3), 0);
    due("person(1, 3)", x.person(1, 3), 1);
  }

  static void promise05_aHandWouldCountOrNot() {
    HandsHeld x = of("hall must 1; person side 0; person side 1; counts: side = 1;");
    due("person(0, 4)", x.person(0, 4), 0);
    due("person(1, 4)", x.person(1, 4), 1);
    x.change(0);
    due("person(0, 4)", x.person(0, 4), 1);
  }

  static void promise05_withoutALawAHandAlwaysCounts() {
    HandsHeld x = of("hall must 1; person side 0 strength 1 weight 0; cold 9;");
    due("person(0, 4)", x.person(0, 4), 1);
  }

  static void promise05_itTellsHowItIsNow() {
    HandsHeld x = of("hall must 1; person side 0 strength 1; counts: strength > 0 and cold < 9;");
    due("person(0, 4)", x.person(0, 4), 1);
    x.cold(9);
    due("person(0, 4)", x.person(0, 4), 0);
    x.cold(8);
    x.hour(1);
    due("person(0, 1)", x.person(0, 1), 0);
    due("person(0, 4)", x.person(0, 4), 0);
    x.change(0);
    due("person(0, 0)", x.person(0, 0), 1);
    x.undo(1);
    due("person(0, 0)", x.person(0, 0), 0);
    HandsHeld sides = of("hall must 1; person side 0; counts: side = 1;");
    due("person(0, 4)", sides.person(0, 4), 0);
    sides.change(0);
    due("person(0, 4)", sides.person(0, 4), 1);
  }

  static void promise05_theLawAloneTellsWhetherAHandWouldCount() {
    due("without a law", of("hall must 1; person side 0 strength 0;").person(0, 4), 1);
    due("by a law", of("hall must 1; person side 0 strength 0; counts: strength < 1;").person(0, 4),
        1);
  }

  // ---- 6: by

  static void promise06_noPersonIsToldAheadOfTheSet() {
    for (int p : new int[] {-1, 3, 5, LEAST, GREATEST}) {
      refuses("by(0, " + p + ")", x -> x.by(0, p), -2);
      refuses("by(8, " + p + ")", x -> x.by(8, p), -2);
      refuses("by(2, " + p + ")", x -> x.by(2, p), -2);
    }
  }

  static void promise06_othersInTheSetAreToldAheadOfWhoCantHold() {
    for (int set : new int[] {8, 10, 15, 16, 32, 34, 1 << 30, -1, -2, LEAST, GREATEST}) {
      refuses("by(" + set + ", 0)", x -> x.by(set, 0), -3);
    }
  }

  static void promise06_oneThatCantHoldIsRefused() {
    for (int set : new int[] {2, 3, 6, 7}) {
      refuses("by(" + set + ", 0)", x -> x.by(set, 0), -5);
      refuses("by(" + set + ", 1)", x -> x.by(set, 1), -5);
    }
  }

  static void promise06_aStrengthOf1CanHold() {
    due("by(1, 0)", of("hall must 1; person side 0 strength 1;").by(1, 0), 0);
  }

  static void promise06_nobodyAndAllFiveCanHold() {
    HandsHeld x = of("hall must 1;" + people(5, "person side 0 strength 2"));
    for (int p = 0; p < 5; p++) {
      due("by(0, " + p + ")", x.by(0, p), 3);
      due("by(31, " + p + ")", x.by(31, p), 1);
    }
    due("by(32, 0)", x.by(32, 0), -3);
    due("by(63, 0)", x.by(63, 0), -3);
  }

  static void promise06_withoutALawTheStrengthStaysWithin0And4() {
    HandsHeld x = of("hall must 1; person side 0; person side 0 strength 1;"
        + " person side 0 strength 0;person side 0 strength 3;");
    due("by(0, 0)", x.by(0, 0), 4);
    due("by(1, 0)", x.by(1, 0), 3);
    due("by(2, 1)", x.by(2, 1), 0);
    due("by(0, 2)", x.by(0, 2), 1);
    due("by(0, 3)", x.by(0, 3), 4);
  }

  static void promise06_withoutALawARodIsAsItWas() {
    for (int strength = 0; strength <= 4; strength++) {
      HandsHeld x = of("hall must 1; person side 0 rod strength " + strength + ";");
      due("by(0, 0)", x.by(0, 0), strength);
      due("by(1, 0)", x.by(1, 0), strength == 0 ? -5 : strength);
    }
  }

  static void promise06_withALawARodTiresByIt() {
    HandsHeld x = of("hall must 1; person side 0 rod strength 2; tires: strength - held * 2;");
    due("by(1, 0)", x.by(1, 0), 0);
  }

  private static void tires(String sum, int want) {
    due("by(0, 0) of " + sum, of("hall must 1; person side 0; tires: " + sum + ";").by(0, 0), want);
  }

  static void promise06_byALawTheStrengthIs0AtLeast() {
    tires("0 - 1", 0);
    tires("0", 0);
    tires("1", 1);
    tires("0 - 999 * 999", 0);
  }

  static void promise06_byALawTheStrengthIs4AtMost() {
    tires("3", 3);
    tires("4", 4);
    tires("5", 4);
    tires("999 * 999 * 999", 4);
  }

  private static void same(String one, String other) {
    tires("if " + one + " = " + other + " then 1 else 0 end", 1);
  }

  private static void less(String one, String other) {
    tires("if " + one + " < " + other + " then 1 else 0 end", 1);
  }

  private static final String MILLION = "999 * 999 + 999 * 2 + 1";
  private static final String ALMOST = "999 * 999 + 999 * 2";
  private static final String DEBT = "0 - 999 * 999 - 999 * 2 - 1";

  static void promise06_aMillionIsReachedByPlusAndNoMore() {
    less(ALMOST, MILLION);
    same(MILLION + " + 1", MILLION);
    same(MILLION + " + 999", MILLION);
    same(MILLION + " + 1 - 1", ALMOST);
    same("999 * 999 + 999 * 999 - 1", ALMOST);
  }

  static void promise06_lessAMillionIsReachedByMinusAndNoLess() {
    less(DEBT, "0 - 999 * 999 - 999 * 2");
    same(DEBT + " - 1", DEBT);
    same(DEBT + " - 1 + 1", "0 - 999 * 999 - 999 * 2");
    same("0 - 999 * 999 - 999 * 999", DEBT);
  }

  static void promise06_minusIsKeptAtAMillionToo() {
    same(MILLION + " - (0 - 1)", MILLION);
    same(DEBT + " + (0 - 1)", DEBT);
  }

  static void promise06_timesIsKeptAtAMillionOnBothSides() {
    same("500 * 2 * 999 + 999 + 1", MILLION);
    same("999 * 999 * 2", MILLION);
    same("999 * 999 * 999 * 999", MILLION);
    same("(0 - 999) * 999 * 2", DEBT);
    same("(0 - 999) * 999 * (0 - 999)", MILLION);
    same("999 * 999 * (0 - 2)", DEBT);
    same("(" + MILLION + ") * (" + MILLION + ")", MILLION);
    same("(" + MILLION + ") * (" + DEBT + ")", DEBT);
    same("(" + DEBT + ") * (" + DEBT + ")", MILLION);
  }

  static void promise06_heldMatesAndOthersFromNobodyToAll() {
    String text = "hall must 1;" + people(4, "person side 0") + "person side 1; tires: ";
    HandsHeld held = of(text + "held;");
    due("by(30, 0)", held.by(30, 0), 0);
    due("by(1, 0)", held.by(1, 0), 1);
    HandsHeld mates = of(text + "mates;");
    due("by(1, 0)", mates.by(1, 0), 0);
    due("by(17, 0)", mates.by(17, 0), 0);
    due("by(31, 0)", mates.by(31, 0), 3);
    due("by(31, 4)", mates.by(31, 4), 0);
    HandsHeld others = of(text + "others;");
    due("by(15, 0)", others.by(15, 0), 0);
    due("by(31, 0)", others.by(31, 0), 1);
    due("by(31, 4)", others.by(31, 4), 4);
    due("by(16, 4)", others.by(16, 4), 0);
  }

  static void promise06_eachWordOfALawTellsItsValue() {
    String text = "hall must 1; cold 3; person side 1 strength 2 weight 4; person side 0 rod;"
        + " person side 1 strength 3 rod weight 0; tires: ";
    String[] words = {"person", "side", "strength", "weight", "rod", "cold"};
    int[][] want = {{0, 1, 2}, {1, 0, 1}, {2, 4, 3}, {4, 1, 0}, {0, 1, 1}, {3, 3, 3}};
    for (int i = 0; i < words.length; i++) {
      HandsHeld x = of(text + words[i] + ";");
      for (int p = 0; p < 3; p++) {
        due(words[i] + " of " + p, x.by(5, p), want[i][p]);
      }
      HandsHeld y = of(text + "0; counts: " + words[i] + " = " + want[i][2] + ";");
      due("counts by " + words[i], y.person(2, 4), 1);
    }
    HandsHeld x = of(text + "side * 2 + cold - 4;");
    x.cold(5);
    due("by(0, 0)", x.by(0, 0), 3);
    x.change(0);
    due("by(0, 0)", x.by(0, 0), 1);
  }

  static void promise06_theSignsGoFromTheLeftTimesFirst() {
    tires("5 - 2 - 1", 2);
    tires("5 - 2 + 1", 4);
    tires("9 - 2 * 3", 3);
    tires("2 * 3 - 4", 2);
    tires("9 - 2 * 2 * 2 + 1", 2);
    tires("9 - (2 + 2) * 2", 1);
    tires("9 - (2 + 2 * 3)", 1);
    tires("9 - (7 - 2) - 1", 3);
  }

  static void promise06_anIfTellsTheOneOrTheOther() {
    tires("if 1 = 1 then 2 else 3 end", 2);
    tires("if 1 = 2 then 2 else 3 end", 3);
    tires("if 1 = 1 then 2 else 3 end + 1", 3);
    tires("2 * if 1 = 2 then 2 else 1 end", 2);
    tires("if 1 = 1 then if 1 = 2 then 1 else 2 end else 3 end", 2);
    tires("if if 1 = 1 then 2 else 3 end = 2 then 1 else 4 end", 1);
    tires("if 1 < 2 and 2 < 3 then 1 + 1 else 3 - 2 end", 2);
  }

  static void promise06_theHourIsNotDone() {
    HandsHeld x = lived();
    HandsHeld twin = lived();
    x.by(5, 2);
    due("count(6)", x.count(6), twin.count(6));
    due("count(7)", x.count(7), twin.count(7));
    due("strengths", strengths(x), 203);
  }

  // ---- 7: counted

  static void promise07_noSideIsToldAheadOfTheSet() {
    for (int side : new int[] {-1, 2, LEAST, GREATEST}) {
      refuses("counted(0, " + side + ")", x -> x.counted(0, side), -2);
      refuses("counted(8, " + side + ")", x -> x.counted(8, side), -2);
      refuses("counted(2, " + side + ")", x -> x.counted(2, side), -2);
    }
  }

  static void promise07_othersInTheSetAreToldAheadOfWhoCantHold() {
    for (int set : new int[] {8, 10, 16, 32, 34, -1, LEAST, GREATEST}) {
      refuses("counted(" + set + ", 0)", x -> x.counted(set, 0), -3);
      refuses("counted(" + set + ", 1)", x -> x.counted(set, 1), -3);
    }
  }

  static void promise07_oneThatCantHoldIsRefusedForBothSides() {
    refuses("counted(2, 0)", x -> x.counted(2, 0), -5);
    refuses("counted(2, 1)", x -> x.counted(2, 1), -5);
    refuses("counted(7, 1)", x -> x.counted(7, 1), -5);
  }

  static void promise07_noHandUpToAllFive() {
    HandsHeld x = of(FIVE);
    due("counted(0, 0)", x.counted(0, 0), 0);
    due("counted(16, 0)", x.counted(16, 0), 1);
    due("counted(31, 0)", x.counted(31, 0), 5);
    due("counted(31, 1)", x.counted(31, 1), 0);
    due("counted(32, 0)", x.counted(32, 0), -3);
  }

  static void promise07_withoutPeopleNobodyCounts() {
    HandsHeld x = new HandsHeld();
    due("counted(0, 0)", x.counted(0, 0), 0);
    due("counted(0, 1)", x.counted(0, 1), 0);
    due("counted(1, 0)", x.counted(1, 0), -3);
  }

  static void promise07_aStrengthOf1CanHoldAndCounts() {
    due("counted(1, 0)", of("hall must 1; person side 0 strength 1;").counted(1, 0), 1);
  }

  static void promise07_onlyHandsForWhichTheLawHoldsCount() {
    HandsHeld x = of("hall must 1; person side 0 weight 4; person side 0 weight 5;"
        + "person side 1 weight 6; counts: weight > 4;");
    due("counted(7, 0)", x.counted(7, 0), 1);
    due("counted(1, 0)", x.counted(1, 0), 0);
    due("counted(7, 1)", x.counted(7, 1), 1);
  }

  private static void truth(String told, int want) {
    due("person(0, 4) of " + told, of("hall must 1; person side 0; counts: " + told + ";")
        .person(0, 4), want);
  }

  static void promise07_likeIsNeitherLessNorMore() {
    truth("3 = 3", 1);
    truth("3 = 4", 0);
    truth("4 = 3", 0);
    truth("3 < 3", 0);
    truth("3 < 4", 1);
    truth("4 < 3", 0);
    truth("3 > 3", 0);
    truth("4 > 3", 1);
    truth("3 > 4", 0);
  }

  static void promise07_andOrNotOfEachTruth() {
    truth("1 = 1 and 1 = 1", 1);
    truth("1 = 1 and 1 = 2", 0);
    truth("1 = 2 and 1 = 1", 0);
    truth("1 = 2 and 1 = 2", 0);
    truth("1 = 1 or 1 = 1", 1);
    truth("1 = 1 or 1 = 2", 1);
    truth("1 = 2 or 1 = 1", 1);
    truth("1 = 2 or 1 = 2", 0);
    truth("not 1 = 1", 0);
    truth("not 1 = 2", 1);
    truth("not not 1 = 1", 1);
    truth("not not not 1 = 1", 0);
    truth("1 = 1 and not 1 = 1", 0);
    truth("1 = 1 and not 1 = 2", 1);
    truth("1 = 2 or not 1 = 1", 0);
    truth("1 = 2 or not 1 = 2", 1);
    truth("if 1 = 1 then 2 else 3 end = 2 and not [1 = 1 and not 1 = 2]", 0);
    truth("1 + if not 1 = 1 then 2 else 3 end = 4", 1);
    truth("1 = 2 or 1 = 2 or 1 = 1", 1);
    truth("1 = 2 or 1 = 2 or 1 = 2 or 1 = 1", 1);
    truth("1 = 1 and 1 = 1 and 1 = 2", 0);
    truth("1 = 1 and 1 = 1 and 1 = 1 and 1 = 1", 1);
  }

  static void promise07_andGoesAheadOfOrAndNotAheadOfBoth() {
    truth("1 = 1 or 1 = 1 and 1 = 2", 1);
    truth("1 = 2 and 1 = 1 or 1 = 1", 1);
    truth("[1 = 1 or 1 = 1] and 1 = 2", 0);
    truth("not 1 = 2 and 1 = 2", 0);
    truth("not [1 = 2 and 1 = 2]", 1);
    truth("not 1 = 1 or 1 = 1", 1);
    truth("not [1 = 1 or 1 = 1]", 0);
  }

  /** One law within another, as many as may be: as true as the innermost. */
  private static String within(int depth, int innermost) {
    String all = "1 = 2 or 1 = 1 and 1 < 1 + 1 * " + innermost;
    for (int i = 0; i < depth; i++) {
      all = "1=2 or 1=1 and 1<1+1*if " + all + " then 1 else 0 end";
    }
    return all;
  }

  static void promise07_sixWithinOneAnotherAreWorkedOut() {
    truth(within(6, 1), 1);
    truth(within(6, 0), 0);
    truth("not not not not not not 1 = 1", 1);
    truth("[not [not [not 1 = 1]]]", 0);
    tires("if " + within(5, 1) + " then 3 else 1 end", 3);
    tires("if " + within(5, 0) + " then 3 else 1 end", 1);
    tires("2 * (1 + (1 - (1 - (1 - (1 - (1 - 1))))))", 2);
  }

  static void promise06_asLongALawAsCanBeTold() {
    tires("1" + "-1+1".repeat(213), 1);
    tires("2" + "*1".repeat(425), 2);
    HandsHeld x = of("hall must 1;person side 0;tires:9" + "-1".repeat(429) + "+425;");
    due("by(0, 0)", x.by(0, 0), 4);
    due("by(0, 0)", of("hall must 1;person side 0;tires:430" + "-1".repeat(428) + ";").by(0, 0), 2);
  }

  static void promise03_nothingOfOlderHallsIsLeft() {
    HandsHeld x = used();
    tell(x, "hall must 3;" + people(5, "person side 1 strength 1 weight 3 rod") + "cold 6;"
        + " tires: 2;counts: 1 = 2;");
    for (int i = 0; i < 2; i++) {
      due("hall", tell(x, "hall must 2; person side 0; person side 1 strength 3;"), 3);
      int[] want = {2, 2, 2, 7, 3, 0, 0, 0, 0, 3};
      for (int what = 0; what < 10; what++) {
        due("count(" + what + ")", x.count(what), want[what]);
      }
      int[] first = {0, 4, 1, 0, 1};
      for (int what = 0; what < 5; what++) {
        due("person(0, " + what + ")", x.person(0, what), first[what]);
      }
      due("by(1, 0)", x.by(1, 0), 3);
      due("by(0, 1)", x.by(0, 1), 4);
      due("counted(3, 0)", x.counted(3, 0), 1);
    }
  }

  static void promise03_nothingOfAFaultyTextIsLeft() {
    for (int i = 0; i < 2; i++) {
      HandsHeld x = new HandsHeld();
      for (int j = 0; j <= i; j++) {
        due("hall", tell(x, "hall must 3;" + people(5, "person side 1 strength 1 weight 3 rod")
            + "cold 6; tires: 2; counts: 1 = 2; cold 10;"), -33);
      }
      due("hall", tell(x, "hall must 2; person side 0;"), 2);
      int[] want = {1, 2, 0, 4, 1, 0, 0, 0, 0, 2};
      for (int what = 0; what < 10; what++) {
        due("count(" + what + ")", x.count(what), want[what]);
      }
      due("person(0, 3)", x.person(0, 3), 0);
      due("person(0, 4)", x.person(0, 4), 1);
      due("by(1, 0)", x.by(1, 0), 3);
      due("holds(0)", x.holds(0), 0);
    }
  }
}
