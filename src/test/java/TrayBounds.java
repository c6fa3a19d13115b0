/** Boundary cases of promises 35 to 40: numbers, write, lists, image, restore, count. */
final class TrayBounds extends Bounds {
  private static final String ONE = "hall must 1; person side 0 strength 3; person side 1 rod;";
  private static final int[] NO_TRAYS = {-1, 4, 5, LEAST, GREATEST};

  // ---- 35: numbers

  static void promise35_noSuchTrayIsToldAheadOfN() {
    for (int tray : NO_TRAYS) {
      refuses("numbers(" + tray + ", 0, 1)", x -> x.numbers(tray, 0, 1), -2);
      refuses("numbers(" + tray + ", 0, 41)", x -> x.numbers(tray, 0, 41), -2);
      refuses("numbers(" + tray + ", 0, -1)", x -> x.numbers(tray, 0, -1), -2);
    }
  }

  static void promise35_noSuchSortIsToldAheadOfN() {
    for (int sort : new int[] {-1, 4, 5, LEAST, GREATEST}) {
      refuses("numbers(0, " + sort + ", 1)", x -> x.numbers(0, sort, 1), -2);
      refuses("numbers(2, " + sort + ", 1)", x -> x.numbers(2, sort, 1), -2);
      refuses("numbers(0, " + sort + ", 41)", x -> x.numbers(0, sort, 41), -2);
      refuses("numbers(0, " + sort + ", -1)", x -> x.numbers(0, sort, -1), -2);
    }
  }

  static void promise35_nBelow0OrAbove40AndTheTrayStays() {
    for (int n : new int[] {-1, -40, 41, 42, LEAST, GREATEST}) {
      for (int tray = 0; tray < 4; tray++) {
        int told = tray;
        refuses("numbers(" + tray + ", 2, " + n + ")", x -> x.numbers(told, 2, n), -3);
      }
    }
  }

  static void promise35_noneToFortyNumbers() {
    for (int n : new int[] {0, 1, 39, 40}) {
      HandsHeld x = new HandsHeld();
      due("numbers(0, 0, " + n + ")", x.numbers(0, 0, n), 0);
      due("the last", n == 0 ? 5 : x.write(0, n - 1, 5), 5);
      due("one more", x.write(0, n, 5), -7);
    }
  }

  static void promise35_anEmptyTrayIsNotMissing() {
    HandsHeld x = new HandsHeld();
    due("perform(0)", x.perform(0), -6);
    due("numbers(0, 0, 0)", x.numbers(0, 0, 0), 0);
    due("perform(0)", x.perform(0), 0);
    due("seen(0)", x.seen(0), -4);
    due("write(0, 0, 0)", x.write(0, 0, 0), -7);
  }

  static void promise35_everyTrayOfEverySort() {
    for (int tray = 0; tray < 4; tray++) {
      for (int sort = 0; sort < 4; sort++) {
        HandsHeld x = new HandsHeld();
        due("numbers(" + tray + ", " + sort + ", 2)", x.numbers(tray, sort, 2), 0);
        for (int other = 0; other < 4; other++) {
          due("perform(" + other + ")", x.perform(other), other == tray ? 2 : -6);
        }
      }
    }
  }

  static void promise35_allAre0InPlaceOfAnotherOne() {
    HandsHeld x = tray(new HandsHeld(), 0, 0, times(40, 99));
    due("perform(0)", x.perform(0), 0);
    due("numbers(0, 3, 40)", x.numbers(0, 3, 40), 0);
    due("perform(0)", x.perform(0), 40);
    tray(x, 0, 0, times(40, 99));
    due("numbers(0, 0, 1)", x.numbers(0, 0, 1), 0);
    due("numbers(0, 0, 40)", x.numbers(0, 0, 40), 0);
    due("perform(0)", x.perform(0), 40);
  }

  // ---- 36: write

  static void promise36_noSuchTrayIsToldAheadOfTheNumber() {
    for (int tray : NO_TRAYS) {
      refuses("write(" + tray + ", 0, 1)", x -> x.write(tray, 0, 1), -2);
      refuses("write(" + tray + ", -1, 1)", x -> x.write(tray, -1, 1), -2);
    }
  }

  static void promise36_aMissingTrayIsToldAheadOfTheNumber() {
    refuses("write(2, 0, 1)", x -> x.write(2, 0, 1), -6);
    refuses("write(2, -1, 1)", x -> x.write(2, -1, 1), -6);
    refuses("write(2, 40, 1)", x -> x.write(2, 40, 1), -6);
  }

  static void promise36_noSuchNumber() {
    for (int i : new int[] {-1, 3, 4, 39, 40, LEAST, GREATEST}) {
      refuses("write(0, " + i + ", 1)", x -> x.write(0, i, 1), -7);
    }
    for (int i : new int[] {-1, 40, 41, LEAST, GREATEST}) {
      refuses("write(3, " + i + ", 1)", x -> x.write(3, i, 1), -7);
    }
    refuses(() -> tray(new HandsHeld(), 1, 0), "write(1, 0, 1)", x -> x.write(1, 0, 1), -7);
  }

  static void promise36_theFirstAndTheFortieth() {
    HandsHeld x = new HandsHeld();
    x.numbers(0, 0, 40);
    due("write(0, 39, 99)", x.write(0, 39, 99), 99);
    due("judge(0, 0)", x.judge(0, 0), 39);
    due("write(0, 0, 99)", x.write(0, 0, 99), 99);
    due("judge(0, 0)", x.judge(0, 0), 0);
    due("write(0, 0, 60)", x.write(0, 0, 60), 60);
    due("judge(0, 0)", x.judge(0, 0), 39);
  }

  private static void cut(int sort, long v, long want) {
    HandsHeld x = new HandsHeld();
    x.numbers(0, sort, 1);
    due("write of " + v + " by sort " + sort, x.write(0, 0, v), want);
  }

  static void promise36_eightBitsWrapAround() {
    cut(0, 127, 127);
    cut(0, 128, -128);
    cut(0, 255, -1);
    cut(0, 256, 0);
    cut(0, 257, 1);
    cut(0, -128, -128);
    cut(0, -129, 127);
    cut(0, Long.MAX_VALUE, -1);
    cut(0, Long.MIN_VALUE, 0);
  }

  static void promise36_sixteenBitsWrapAround() {
    cut(1, 32767, 32767);
    cut(1, 32768, -32768);
    cut(1, 65535, -1);
    cut(1, 65536, 0);
    cut(1, -32768, -32768);
    cut(1, -32769, 32767);
    cut(1, Long.MAX_VALUE, -1);
    cut(1, Long.MIN_VALUE, 0);
  }

  static void promise36_thirtyTwoBitsWrapAround() {
    cut(2, GREATEST, GREATEST);
    cut(2, GREATEST + 1L, LEAST);
    cut(2, (1L << 32) - 1, -1);
    cut(2, 1L << 32, 0);
    cut(2, LEAST, LEAST);
    cut(2, LEAST - 1L, GREATEST);
    cut(2, Long.MAX_VALUE, -1);
    cut(2, Long.MIN_VALUE, 0);
  }

  static void promise36_sixtyFourBitsAreWhole() {
    cut(3, Long.MAX_VALUE, Long.MAX_VALUE);
    cut(3, Long.MIN_VALUE, Long.MIN_VALUE);
    cut(3, 1L << 32, 1L << 32);
    cut(3, -1, -1);
  }

  static void promise36_whatIsThereIsWhatWasCut() {
    HandsHeld x = tray(new HandsHeld(), 0, 0, 0);
    due("write(0, 0, 256 + 65)", x.write(0, 0, 256 + 65), 65);
    due("perform(0)", x.perform(0), 1);
    due("count(5)", x.count(5), 5);
    due("write(0, 0, 255)", x.write(0, 0, 255), -1);
    due("seen(0)", x.seen(0), 1);
    x.numbers(0, 2, 1);
    due("write(0, 0, 2^32 + 63)", x.write(0, 0, (1L << 32) + 63), 63);
    due("perform(0)", x.perform(0), 1);
    due("count(5)", x.count(5), 3);
    x.numbers(0, 3, 1);
    due("write(0, 0, 2^32 + 63)", x.write(0, 0, (1L << 32) + 63), (1L << 32) + 63);
    due("perform(0)", x.perform(0), 0);
  }

  static void promise36_ofAnotherTrayNothingIsChanged() {
    HandsHeld x = new HandsHeld();
    for (int tray = 0; tray < 4; tray++) {
      x.numbers(tray, 0, 2);
    }
    x.write(1, 0, 99);
    for (int tray = 0; tray < 4; tray++) {
      due("judge(" + tray + ", 0)", x.judge(tray, 0), tray == 1 ? 0 : NONE);
    }
  }

  // ---- 37: lists

  static void promise37_noSuchTrayOrSideIsToldAheadOfAMissingTray() {
    for (int tray : NO_TRAYS) {
      refuses("lists(" + tray + ", 0)", x -> x.lists(tray, 0), -2);
    }
    for (int side : new int[] {-1, 2, LEAST, GREATEST}) {
      refuses("lists(0, " + side + ")", x -> x.lists(0, side), -2);
      refuses("lists(2, " + side + ")", x -> x.lists(2, side), -2);
    }
  }

  static void promise37_aMissingTray() {
    refuses("lists(2, 0)", x -> x.lists(2, 0), -6);
    refuses("lists(2, 1)", x -> x.lists(2, 1), -6);
  }

  static void promise37_anEmptyTrayHasNoPlace() {
    HandsHeld x = tray(of(ONE), 0, 0);
    due("lists(0, 0)", x.lists(0, 0), 0);
    due("lists(0, 1)", x.lists(0, 1), 0);
  }

  static void promise37_fewerPlacesThanHours() {
    HandsHeld x = tray(of(ONE), 0, 0, 99, 99);
    due("lists(0, 0)", x.lists(0, 0), 2);
    due("perform(0)", x.perform(0), 2);
    due("person(0, 1)", x.person(0, 1), 1);
  }

  static void promise37_justAsManyPlacesAsHours() {
    HandsHeld x = tray(of(ONE), 0, 0, 99, 99, 99);
    due("lists(0, 0)", x.lists(0, 0), 3);
    due("perform(0)", x.perform(0), 3);
    due("person(0, 1)", x.person(0, 1), 0);
  }

  static void promise37_morePlacesThanHoursStayAsTheyAre() {
    HandsHeld x = tray(of(ONE), 0, 0, 99, 99, 99, 65, 99);
    due("lists(0, 0)", x.lists(0, 0), 3);
    due("perform(0)", x.perform(0), 4);
    due("count(5)", x.count(5), 5);
  }

  static void promise37_withoutAnHourNothingComes() {
    HandsHeld x = tray(of("hall must 2; person side 0;"), 0, 0, 64, 65);
    due("lists(0, 0)", x.lists(0, 0), 0);
    due("lists(0, 1)", x.lists(0, 1), 0);
    due("perform(0)", x.perform(0), 2);
    due("count(5)", x.count(5), 5);
  }

  static void promise37_forEverAllFortyPlaces() {
    HandsHeld x = tray(of(ONE), 0, 0, times(40, 99));
    due("lists(0, 1)", x.lists(0, 1), 40);
    due("judge(0, 0)", x.judge(0, 0), NONE);
    tray(x, 1, 3, times(8, 5));
    due("lists(1, 1)", x.lists(1, 1), 8);
    due("seen(1)", x.seen(1), 0);
    tray(x, 1, 3, times(6, 0));
    due("lists(1, 1)", x.lists(1, 1), 6);
    due("chance(1, 1, 0)", x.chance(1, 1, 0), 59049);
  }

  static void promise37_everyTrayAndSort() {
    for (int tray = 0; tray < 4; tray++) {
      HandsHeld x = tray(of("hall must 5;" + people(5, "person side 1")), tray, tray, 99, 99);
      due("lists(" + tray + ", 1)", x.lists(tray, 1), 2);
      due("perform(" + tray + ")", x.perform(tray), 2);
      due("strengths", strengths(x), 22222);
    }
  }

  // ---- 38: image

  static void promise38_noSuchImage() {
    for (int i : new int[] {-1, 2, 3, LEAST, GREATEST}) {
      refuses("image(" + i + ")", x -> x.image(i), -2);
    }
  }

  static void promise38_bothCanBeMade() {
    HandsHeld x = of(ONE);
    due("image(0)", x.image(0), 0);
    due("restore(1)", x.restore(1), -5);
    x.cold(7);
    due("image(1)", x.image(1), 0);
    due("restore(0)", x.restore(0), 0);
    due("count(5)", x.count(5), 0);
    due("restore(1)", x.restore(1), 0);
    due("count(5)", x.count(5), 7);
  }

  static void promise38_aNewOneComesInPlaceOfTheOld() {
    HandsHeld x = of(ONE);
    x.image(0);
    x.cold(7);
    x.image(0);
    x.cold(8);
    due("restore(0)", x.restore(0), 0);
    due("count(5)", x.count(5), 7);
  }

  static void promise38_anImageOfANewObject() {
    HandsHeld x = new HandsHeld();
    due("image(0)", x.image(0), 0);
    tell(x, ONE);
    due("restore(0)", x.restore(0), 0);
    int[] want = {0, 1, 0, 0, 0, 0, 0, 0, 0, 0};
    for (int what = 0; what < 10; what++) {
      due("count(" + what + ")", x.count(what), want[what]);
    }
  }

  static void promise38_nothingElseIsChanged() {
    HandsHeld x = lived();
    HandsHeld twin = lived();
    x.image(1);
    for (int what = 0; what < 10; what++) {
      due("count(" + what + ")", x.count(what), twin.count(what));
    }
    due("undo(4)", x.undo(4), 0);
    due("restore(0)", x.restore(0), 0);
    due("count(5)", x.count(5), 4);
  }

  // ---- 39: restore

  static void promise39_noSuchImage() {
    for (int i : new int[] {-1, 2, 3, LEAST, GREATEST}) {
      refuses("restore(" + i + ")", x -> x.restore(i), -2);
      refuses(HandsHeld::new, "restore(" + i + ") of none", x -> x.restore(i), -2);
    }
  }

  static void promise39_noneWasMade() {
    refuses("restore(1)", x -> x.restore(1), -5);
    refuses(HandsHeld::new, "restore(0)", x -> x.restore(0), -5);
  }

  static void promise39_allThatIsInItIsAsItWas() {
    HandsHeld x = of("hall must 3; person side 1 strength 2 weight 7 rod; person side 0; cold 4;"
        + "tires: cold; counts: weight = 7;");
    x.hour(2);
    x.image(1);
    int[] counts = new int[10];
    for (int what = 0; what < 10; what++) {
      counts[what] = x.count(what);
    }
    tell(x, "hall must 0;" + people(5, "person side 0 strength 1"));
    x.cold(9);
    due("restore(1)", x.restore(1), 0);
    counts[7] = 0;
    for (int what = 0; what < 10; what++) {
      due("count(" + what + ")", x.count(what), counts[what]);
    }
    int[] want = {1, 4, 7, 1, 1};
    for (int what = 0; what < 5; what++) {
      due("person(0, " + what + ")", x.person(0, what), want[what]);
    }
    due("person(1, 4)", x.person(1, 4), 0);
    due("by(0, 1)", x.by(0, 1), 4);
    due("person(2, 0)", x.person(2, 0), -2);
  }

  static void promise39_nothingCanBeUndoneBehind() {
    HandsHeld x = of(ONE);
    x.cold(1);
    x.image(0);
    for (int i = 0; i < 10; i++) {
      x.cold(2);
    }
    due("restore(0)", x.restore(0), 0);
    due("count(7)", x.count(7), 0);
    due("undo(1)", x.undo(1), -3);
    x.cold(5);
    due("count(7)", x.count(7), 1);
    due("undo(1)", x.undo(1), 0);
    due("count(5)", x.count(5), 1);
  }

  static void promise39_traysTapeAndFaultStay() {
    HandsHeld x = lived();
    due("restore(0)", x.restore(0), 0);
    due("count(8)", x.count(8), 40);
    due("fault(0)", x.fault(0), 3);
    due("fault(1)", x.fault(1), 10);
    due("judge(0, 0)", x.judge(0, 0), NONE);
    due("judge(2, 0)", x.judge(2, 0), -6);
    due("hall(40)", x.hall(40), 2);
  }

  static void promise39_anImageStaysWhateverIsDone() {
    HandsHeld x = of(ONE);
    x.image(0);
    for (int i = 0; i < 3; i++) {
      due("restore(0)", x.restore(0), 0);
      due("strengths", strengths(x), 34);
      due("count(2)", x.count(2), 2);
      x.hour(3);
      x.change(0);
      x.cold(3);
      tell(x, "hall must 4; person side 0; tires: 0; counts: 1 = 2;");
      x.hour(1);
    }
    due("restore(0)", x.restore(0), 0);
    due("count(1)", x.count(1), 1);
    due("hour(1)", x.hour(1), 1);
    due("strengths", strengths(x), 24);
  }

  static void promise39_whatCanBeIsOfTheHallThatCameBack() {
    HandsHeld x = of(ONE);
    x.image(0);
    due("holds(0)", x.holds(0), 3);
    due("stands()", x.stands(), 5);
    tell(x, "hall must 1; person side 0 rod; person side 1 rod;");
    due("holds(0)", x.holds(0), NONE);
    due("stands()", x.stands(), 1);
    x.restore(0);
    due("stands()", x.stands(), 5);
    due("holds(0)", x.holds(0), 3);
  }

  // ---- 40: count

  static void promise40_nothingElseCanBeAsked() {
    for (int what : new int[] {-1, 10, 11, LEAST, GREATEST}) {
      due("count(" + what + ")", new HandsHeld().count(what), NONE);
      due("count(" + what + ")", lived().count(what), NONE);
    }
  }

  static void promise40_nobodyAndFivePeople() {
    HandsHeld x = of("hall must 1;" + people(5, "person side 1"));
    int[] want = {5, 1, 31, 20, 31, 0, 0, 0, 0, 6};
    for (int what = 0; what < 10; what++) {
      due("count(" + what + ")", x.count(what), want[what]);
    }
    HandsHeld none = of("hall must 5;");
    int[] least = {0, 5, 0, 0, 0, 0, 0, 0, 0, 1};
    for (int what = 0; what < 10; what++) {
      due("count(" + what + ")", none.count(what), least[what]);
    }
  }

  static void promise40_whoCanHoldHasAStrengthOf1AtLeast() {
    HandsHeld x = of("hall must 1; person side 0 strength 0; person side 0 strength 1;"
        + "person side 1 strength 0 rod; person side 1 strength 4;");
    due("count(4)", x.count(4), 10);
    due("count(3)", x.count(3), 5);
    due("count(2)", x.count(2), 12);
  }

  static void promise40_allAsItIsNow() {
    HandsHeld x = lived();
    int[] want = {3, 1, 4, 5, 5, 6, 1, 4, 40, 5};
    for (int what = 0; what < 10; what++) {
      due("count(" + what + ")", x.count(what), want[what]);
    }
    x.change(0);
    x.soup(1);
    x.cold(9);
    x.hour(0);
    tell(x, "hall must 1");
    int[] then = {3, 1, 5, 11, 7, 9, 2, 8, 0, 5};
    for (int what = 0; what < 10; what++) {
      due("count(" + what + ") then", x.count(what), then[what]);
    }
  }

  static void promise40_tenCallsAtMostCanBeUndone() {
    HandsHeld x = of(ONE);
    for (int i = 1; i <= 12; i++) {
      x.hour(0);
      due("count(7)", x.count(7), Math.min(i, 10));
      due("count(6)", x.count(6), i);
    }
  }

  static void promise40_noneToNineHundredBytes() {
    HandsHeld x = new HandsHeld();
    due("count(8)", x.count(8), 0);
    for (int i = 1; i <= 46; i++) {
      x.feed(0, 0, 0, 0, 0);
      due("count(8)", x.count(8), Math.min(20 * i, 900));
    }
  }
}
