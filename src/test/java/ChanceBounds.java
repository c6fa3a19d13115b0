/** Boundary cases of promises 33 and 34: chance, mean. */
final class ChanceBounds extends Bounds {
  private static final String TWO = "hall must 1; person side 0 strength 2;"
      + " person side 1 strength 1;";
  private static final int[] NO_TRAYS = {-1, 4, LEAST, GREATEST};

  private static HandsHeld with(long... sets) {
    return tray(of(TWO), 0, 3, sets);
  }

  private static void chance(HandsHeld x, int side, int above, int below) {
    due("chance(0, " + side + ", 0)", x.chance(0, side, 0), above);
    due("chance(0, " + side + ", 1)", x.chance(0, side, 1), below);
  }

  private static void mean(HandsHeld x, int above, int below) {
    due("mean(0, 0)", x.mean(0, 0), above);
    due("mean(0, 1)", x.mean(0, 1), below);
  }

  // ---- 33: chance

  static void promise33_noSuchTraySideOrQuestionIsToldAheadOfAMissingTray() {
    for (int tray : NO_TRAYS) {
      refuses("chance(" + tray + ", 0, 0)", x -> x.chance(tray, 0, 0), -2);
    }
    for (int side : new int[] {-1, 2, LEAST, GREATEST}) {
      refuses("chance(0, " + side + ", 0)", x -> x.chance(0, side, 0), -2);
      refuses("chance(2, " + side + ", 0)", x -> x.chance(2, side, 0), -2);
      refuses("chance(3, " + side + ", 1)", x -> x.chance(3, side, 1), -2);
    }
    for (int what : new int[] {-1, 2, LEAST, GREATEST}) {
      refuses("chance(0, 0, " + what + ")", x -> x.chance(0, 0, what), -2);
      refuses("chance(2, 1, " + what + ")", x -> x.chance(2, 1, what), -2);
      refuses("chance(3, 1, " + what + ")", x -> x.chance(3, 1, what), -2);
    }
  }

  static void promise33_aMissingTray() {
    refuses("chance(2, 0, 0)", x -> x.chance(2, 0, 0), -6);
    refuses("chance(2, 1, 1)", x -> x.chance(2, 1, 1), -6);
  }

  static void promise33_oneToSixNumbers() {
    refuses(() -> with(), "chance of none", x -> x.chance(0, 0, 0), -4);
    refuses(() -> with(times(7, 1)), "chance of seven", x -> x.chance(0, 0, 1), -4);
    refuses(() -> with(times(40, 1)), "chance of forty", x -> x.chance(0, 0, 0), -4);
    chance(with(1), 0, 1, 1);
    chance(tray(of("hall must 0;"), 0, 0, times(6, 0)), 0, 1, 1);
  }

  static void promise33_tooManyIsToldAheadOfASet() {
    refuses(() -> with(times(7, -1)), "chance of seven", x -> x.chance(0, 0, 0), -4);
    refuses(() -> with(times(7, 4)), "chance of seven", x -> x.chance(0, 0, 0), -4);
  }

  static void promise33_oneIsNoSet() {
    for (long bad : new long[] {-1, 4, 5, 31, 32, 64, Long.MIN_VALUE, Long.MAX_VALUE, 1L << 32}) {
      refuses(() -> with(bad), "chance of " + bad, x -> x.chance(0, 0, 0), -3);
      refuses(() -> with(0, 3, bad), "chance, last " + bad, x -> x.chance(0, 1, 1), -3);
      refuses(() -> with(bad, 3, 0), "chance, first " + bad, x -> x.chance(0, 1, 1), -3);
    }
    String five = "hall must 1;" + people(5, "person side 0");
    refuses(() -> tray(of(five), 0, 0, 32), "chance of 32", x -> x.chance(0, 0, 0), -3);
    chance(tray(of(five), 0, 0, 31), 0, 1, 1);
    chance(tray(of(five), 0, 0, 0), 0, 0, 1);
    refuses(() -> tray(new HandsHeld(), 0, 0, 1), "chance of 1", x -> x.chance(0, 0, 0), -3);
  }

  static void promise33_forSureAndNever() {
    chance(with(1), 0, 1, 1);
    chance(with(1), 1, 0, 1);
    chance(with(3), 1, 1, 1);
    chance(with(0, 3), 0, 0, 1);
    chance(tray(of("hall must 0; person side 0 strength 0;"), 0, 0, times(6, 1)), 0, 1, 1);
    chance(tray(new HandsHeld(), 0, 0, times(6, 0)), 1, 0, 1);
  }

  static void promise33_whoCantDoesnt() {
    chance(tray(of("hall must 1; person side 0 strength 0;"), 0, 0, 1), 0, 0, 1);
    // It falls to 0 in the first hour, whatever the lot: so in the second it can't hold.
    chance(tray(of("hall must 1; person side 0 strength 1;"), 0, 0, 1, 1), 0, 0, 1);
    // Not to hold is to rest: person 0 holds again in the third hour, but for the second lot; in
    // the second hour the rod must hold, but for the first lot.
    chance(tray(of("hall must 1; person side 0 strength 1; person side 0 rod;"), 0, 0, 3, 3, 1), 0,
        81, 100);
  }

  static void promise33_handsCountAsAllIsAheadOfEachHour() {
    HandsHeld x = of("hall must 1; person side 0; person side 0 rod; counts: strength > 3;");
    chance(tray(x, 0, 0, 1), 0, 1, 1);
    chance(tray(x, 0, 0, 1, 1), 0, 0, 1);
    chance(tray(x, 0, 0, 3, 3), 0, 9, 10);
    // Behind the first hour the lot must fall on neither, behind the second not on person 0.
    chance(tray(x, 0, 0, 3, 2, 1), 0, 18, 25);
  }

  static void promise33_theLotBehindTheLastHourDoesntMatter() {
    HandsHeld x = of("hall must 1; person side 0 rod;");
    chance(tray(x, 0, 0, 1), 0, 1, 1);
    chance(tray(x, 0, 0, 1, 1), 0, 9, 10);
    chance(tray(x, 0, 0, times(6, 1)), 0, 59049, 100000);
  }

  static void promise33_oneOfTenLotsForEach() {
    chance(tray(of("hall must 5;" + people(5, "person side 0 rod")), 0, 0, 31, 31), 0, 1, 2);
    chance(tray(of("hall must 4;" + people(5, "person side 0 rod")), 0, 0, 31, 31), 0, 1, 1);
    chance(tray(of("hall must 4;" + people(5, "person side 0 rod")), 0, 0, 31, 31, 31), 0, 4, 5);
    chance(tray(of("hall must 5;" + people(5, "person side 0 rod")), 0, 0, times(6, 31)), 0, 1, 32);
  }

  static void promise33_whoeverTheLotFallsOn() {
    for (int p = 0; p < 5; p++) {
      String law = "counts: person = " + p + ";";
      HandsHeld x = of("hall must 1;" + people(5, "person side 0 rod") + law);
      chance(tray(x, 0, 0, 31, 31), 0, 9, 10);
    }
  }

  static void promise33_inLowestTerms() {
    HandsHeld x = of("hall must 1; person side 0 rod; person side 0 rod;");
    chance(tray(x, 0, 0, 3, 3, 3), 0, 49, 50);
    chance(tray(x, 0, 0, 1, 2), 0, 9, 10);
    chance(tray(x, 0, 0, 1, 2, 3), 0, 89, 100);
  }

  static void promise33_greatNumbersBelow() {
    // One of two is left behind five lots: 2 * 0.9^5 - 0.8^5.
    HandsHeld x = of("hall must 1; person side 0 rod; person side 0 rod;");
    chance(tray(x, 0, 0, times(6, 3)), 0, 8533, 10000);
    HandsHeld three = of("hall must 1; person side 0; person side 0 rod; person side 1;");
    chance(tray(three, 0, 0, times(6, 2)), 0, 59049, 100000);
  }

  static void promise33_nothingIsDone() {
    HandsHeld x = with(3, 3);
    x.chance(0, 0, 0);
    x.mean(0, 0);
    due("strengths", strengths(x), 21);
    due("count(6)", x.count(6), 0);
    due("count(7)", x.count(7), 0);
  }

  // ---- 34: mean

  static void promise34_noSuchTrayOrQuestionIsToldAheadOfAMissingTray() {
    for (int tray : NO_TRAYS) {
      refuses("mean(" + tray + ", 0)", x -> x.mean(tray, 0), -2);
    }
    for (int what : new int[] {-1, 2, LEAST, GREATEST}) {
      refuses("mean(0, " + what + ")", x -> x.mean(0, what), -2);
      refuses("mean(2, " + what + ")", x -> x.mean(2, what), -2);
      refuses("mean(3, " + what + ")", x -> x.mean(3, what), -2);
    }
  }

  static void promise34_aMissingTray() {
    refuses("mean(2, 0)", x -> x.mean(2, 0), -6);
    refuses("mean(2, 1)", x -> x.mean(2, 1), -6);
  }

  static void promise34_oneToSixNumbers() {
    refuses(() -> with(), "mean of none", x -> x.mean(0, 0), -4);
    refuses(() -> with(times(7, 1)), "mean of seven", x -> x.mean(0, 1), -4);
    refuses(() -> with(times(7, -1)), "mean of seven", x -> x.mean(0, 1), -4);
    mean(tray(new HandsHeld(), 0, 0, times(6, 0)), 0, 1);
    mean(tray(new HandsHeld(), 0, 0, 0), 0, 1);
  }

  static void promise34_oneIsNoSet() {
    for (long bad : new long[] {-1, 4, 31, 32, Long.MIN_VALUE, Long.MAX_VALUE, 1L << 32}) {
      refuses(() -> with(bad), "mean of " + bad, x -> x.mean(0, 0), -3);
      refuses(() -> with(0, 0, bad), "mean, last " + bad, x -> x.mean(0, 1), -3);
    }
    String five = "hall must 1;" + people(5, "person side 0");
    refuses(() -> tray(of(five), 0, 0, 32), "mean of 32", x -> x.mean(0, 0), -3);
    mean(tray(of(five), 0, 0, 31), 27, 2);
    mean(tray(of(five), 0, 0, 0), 18, 1);
  }

  static void promise34_nothingLeftIs0Of1() {
    mean(tray(of("hall must 1; person side 0 strength 0 rod;"), 0, 0, times(6, 0)), 0, 1);
    mean(tray(of("hall must 1; person side 0 strength 1;"), 0, 0, 1), 0, 1);
  }

  static void promise34_behindTheLastHourAndItsLot() {
    HandsHeld x = of("hall must 1; person side 0 rod;");
    mean(tray(x, 0, 0, 0), 18, 5);
    mean(tray(x, 0, 0, 0, 0), 81, 25);
    // 4 times nine to the sixth of ten to the sixth.
    mean(tray(x, 0, 0, times(6, 0)), 531441, 250000);
    mean(tray(of("hall must 1; person side 0 rod strength"
        + " 1;"), 0, 0, times(6, 0)), 531441, 1000000);
  }

  static void promise34_whetherASideStandsOrNot() {
    mean(tray(of("hall must 5; person side 0 rod;"), 0, 0, 0, 0), 81, 25);
    mean(tray(of("hall must 0; person side 0 rod;"), 0, 0, 1, 1), 81, 25);
  }

  static void promise34_whoCantDoesnt() {
    // It falls to 0, and so rests in the second hour: 1, but for its lot.
    mean(tray(of("hall must 1; person side 0 strength 1;"), 0, 0, 1, 1), 9, 10);
  }

  static void promise34_allTogether() {
    // 4 + 3 + 2 + 1 + 0 behind an hour of rods, each struck in one lot of ten.
    HandsHeld x = of("hall must 1; person side 0 rod; person side 1 rod strength 3;"
        + " person side 0 rod"
        + " strength 2; person side 1 rod strength 1; person side 0 rod strength 0;");
    mean(tray(x, 0, 0, 15), 9, 1);
    mean(tray(x, 0, 0, 31), 9, 1);
  }

  static void promise33_anotherHallBeforeDoesntMatter() {
    for (String text : new String[] {"hall must 1; person side 0 strength 3; person side 1;",
        "hall must 1; person side 0 strength 1; person side 1 rod; person side 0 strength 2;"}) {
      HandsHeld x = tray(used(), 0, 0, 3, 2, 1, 3);
      tell(x, text);
      HandsHeld fresh = tray(of(text), 0, 0, 3, 2, 1, 3);
      for (int what = 0; what < 2; what++) {
        due("chance(0, 0, " + what + ")", x.chance(0, 0, what), fresh.chance(0, 0, what));
        due("chance(0, 1, " + what + ")", x.chance(0, 1, what), fresh.chance(0, 1, what));
        due("mean(0, " + what + ")", x.mean(0, what), fresh.mean(0, what));
      }
    }
  }
}
