/** Boundary cases of promises 28 to 32: seen, seenBy, surely, colds, attempt. */
final class SeenBounds extends Bounds {
  private static final String TWO = "hall must 1; person side 0 strength 2;"
      + " person side 1 strength 1;";
  private static final String RODS = "hall must 1;" + people(5, "person side 0 rod");
  private static final int[] NO_TRAYS = {-1, 4, 5, LEAST, GREATEST};

  /** An object with people and one tray of some numbers, the others missing. */
  private static HandsHeld with(long... numbers) {
    return tray(of(TWO), 0, 3, numbers);
  }

  // ---- 28: seen

  static void promise28_noSuchTray() {
    for (int tray : NO_TRAYS) {
      refuses("seen(" + tray + ")", x -> x.seen(tray), -2);
    }
  }

  static void promise28_aMissingTray() {
    refuses("seen(2)", x -> x.seen(2), -6);
    refuses(HandsHeld::new, "seen(0)", x -> x.seen(0), -6);
  }

  static void promise28_oneToEightNumbers() {
    refuses(() -> with(), "seen of none", x -> x.seen(0), -4);
    refuses(() -> with(times(9, 0)), "seen of nine", x -> x.seen(0), -4);
    refuses(() -> with(times(40, 0)), "seen of forty", x -> x.seen(0), -4);
    due("seen of one", with(0).seen(0), 1);
    due("seen of eight", with(times(8, 0)).seen(0), 1);
  }

  static void promise28_tooManyIsToldAheadOfANumber() {
    refuses(() -> with(times(9, 6)), "seen of nine", x -> x.seen(0), -4);
    refuses(() -> with(times(9, -2)), "seen of nine", x -> x.seen(0), -4);
  }

  static void promise28_numbersAre0To5OrNone() {
    for (long bad : new long[] {-2, 6, 7, 127, Long.MIN_VALUE, Long.MAX_VALUE, 1L << 32}) {
      refuses(() -> with(bad), "seen of " + bad, x -> x.seen(0), -3);
      refuses(() -> with(0, 0, 0, 0, 0, 0, 0, bad), "seen, last " + bad, x -> x.seen(0), -3);
      refuses(() -> with(bad, 5, 5), "seen, first " + bad, x -> x.seen(0), -3);
    }
    due("seen of 0", with(0).seen(0), 1);
    due("seen of 5", with(5).seen(0), 0);
    due("seen of NONE", with(NONE).seen(0), 4);
  }

  static void promise28_oneNumberOutOfBoundsIsEnough() {
    refuses(() -> with(5, 6), "seen, none anyhow", x -> x.seen(0), -3);
  }

  static void promise28_everyTrayAndSort() {
    for (int tray = 0; tray < 4; tray++) {
      for (int sort = 0; sort < 4; sort++) {
        HandsHeld x = tray(of(TWO), tray, sort, NONE, 1);
        due("seen(" + tray + ")", x.seen(tray), 2 + 2 + 1 + 1);
      }
    }
  }

  static void promise28_withoutPeopleNobodyHolds() {
    due("0", tray(new HandsHeld(), 0, 0, 0, NONE).seen(0), 1);
    due("1", tray(new HandsHeld(), 0, 0, 1).seen(0), 0);
  }

  static void promise28_asManyHandsAsThereAre() {
    due("2 of two", with(2).seen(0), 1);
    due("3 of two", with(3).seen(0), 0);
    due("5 of five", tray(of(RODS), 0, 0, 5).seen(0), 1);
    due("4 of five", tray(of(RODS), 0, 0, 4).seen(0), 5);
    due("0 of five", tray(of(RODS), 0, 0, 0).seen(0), 1);
  }

  static void promise28_asManyRowsAsThereCanBe() {
    due("seen(0)", tray(of(RODS), 0, 0, times(8, NONE)).seen(0), 1L << 40);
    due("seen(0)", tray(of(RODS), 0, 0, times(8, 2)).seen(0), 100000000L);
    due("seen(0)", tray(of(RODS), 0, 0, times(7, NONE)).seen(0), 1L << 35);
  }

  static void promise28_aStrengthOf0CantHold() {
    due("again", with(2, 2).seen(0), 0);
    due("one again", with(2, 1).seen(0), 1);
    due("rested", with(2, 0, 2).seen(0), 1);
  }

  static void promise28_handsThatDontCountAreSeenToo() {
    HandsHeld x = of("hall must 5; person side 0; person side 1; counts: 1 = 2;");
    due("seen(0)", tray(x, 0, 0, 2).seen(0), 1);
  }

  static void promise28_nothingIsDone() {
    HandsHeld x = with(NONE, 1);
    x.seen(0);
    x.seenBy(0, 0);
    x.surely(0);
    due("strengths", strengths(x), 21);
    due("count(6)", x.count(6), 0);
    due("count(7)", x.count(7), 0);
  }

  // ---- 29: seenBy

  static void promise29_noSuchTrayIsToldAheadOfTheHour() {
    for (int tray : NO_TRAYS) {
      refuses("seenBy(" + tray + ", 0)", x -> x.seenBy(tray, 0), -2);
      refuses("seenBy(" + tray + ", -1)", x -> x.seenBy(tray, -1), -2);
    }
  }

  static void promise29_aMissingTrayIsToldAheadOfTheHour() {
    refuses("seenBy(2, 0)", x -> x.seenBy(2, 0), -6);
    refuses("seenBy(2, -1)", x -> x.seenBy(2, -1), -6);
  }

  static void promise29_oneToEightNumbersAheadOfTheHour() {
    refuses(() -> with(), "seenBy of none", x -> x.seenBy(0, 0), -4);
    refuses(() -> with(), "seenBy of none", x -> x.seenBy(0, -1), -4);
    refuses(() -> with(times(9, 0)), "seenBy of nine", x -> x.seenBy(0, 0), -4);
    refuses(() -> with(times(9, 6)), "seenBy of nine", x -> x.seenBy(0, -1), -4);
    due("seenBy of eight", with(times(8, 0)).seenBy(0, 7), 0);
  }

  static void promise29_numbersAre0To5OrNone() {
    refuses(() -> with(6), "seenBy of 6", x -> x.seenBy(0, 0), -3);
    refuses(() -> with(-2), "seenBy of -2", x -> x.seenBy(0, 0), -3);
    refuses(() -> with(-2), "seenBy of -2", x -> x.seenBy(0, 1), -3);
    due("seenBy of 5", with(5).seenBy(0, 0), NONE);
    due("seenBy of NONE", with(NONE).seenBy(0, 0), 0);
  }

  static void promise29_anHourBelow0() {
    refuses(() -> with(1, 1), "seenBy(0, -1)", x -> x.seenBy(0, -1), -3);
    refuses(() -> with(1, 1), "seenBy(0, least)", x -> x.seenBy(0, LEAST), -3);
    refuses(() -> with(5), "seenBy(0, -1), none anyhow", x -> x.seenBy(0, -1), -3);
  }

  static void promise29_theLastHourAndNoneBehindIt() {
    HandsHeld x = with(2, 0, 1);
    due("seenBy(0, 0)", x.seenBy(0, 0), 3);
    due("seenBy(0, 1)", x.seenBy(0, 1), 0);
    due("seenBy(0, 2)", x.seenBy(0, 2), 1);
    due("seenBy(0, 3)", x.seenBy(0, 3), NONE);
    due("seenBy(0, 8)", x.seenBy(0, 8), NONE);
    due("seenBy(0, greatest)", x.seenBy(0, GREATEST), NONE);
    due("seenBy(0, 8) of eight", with(times(8, 0)).seenBy(0, 8), NONE);
  }

  static void promise29_thereAreNone() {
    due("seenBy(0, 0)", with(3).seenBy(0, 0), NONE);
    HandsHeld x = with(2, 2);
    due("seenBy(0, 0)", x.seenBy(0, 0), NONE);
    due("seenBy(0, 1)", x.seenBy(0, 1), NONE);
  }

  static void promise29_theFirstBySetsAsNumbers() {
    // Person 1 must rest first, since it is too weak to hold twice but for a rest.
    HandsHeld x = with(NONE, 2, 2);
    due("seen(0)", x.seen(0), 1);
    int[] want = {0, 3, 3};
    for (int i = 0; i < 3; i++) {
      due("seenBy(0, " + i + ")", x.seenBy(0, i), want[i]);
    }
    HandsHeld late = tray(of("hall must 1; person side 0; person side 0 strength 1;"
        + "tires: strength - held;"), 0, 0, 1, 2);
    due("seenBy(0, 0)", late.seenBy(0, 0), 1);
    due("seenBy(0, 1)", late.seenBy(0, 1), 3);
    HandsHeld other = tray(of("hall must 1; person side 0 strength 1; person side 0;"
        + "tires: strength - held;"), 0, 0, 1, 2);
    due("seenBy(0, 0)", other.seenBy(0, 0), 2);
    due("seenBy(0, 1)", other.seenBy(0, 1), 3);
  }

  static void promise29_theFirstOfThoseThatComeToTheSame() {
    HandsHeld x = tray(of(RODS), 0, 0, 2, NONE, 3);
    due("seenBy(0, 0)", x.seenBy(0, 0), 3);
    due("seenBy(0, 1)", x.seenBy(0, 1), 0);
    due("seenBy(0, 2)", x.seenBy(0, 2), 7);
  }

  static void promise29_allFiveAsBits() {
    due("seenBy(0, 7)", tray(of(RODS), 0, 0, times(8, 5)).seenBy(0, 7), 31);
  }

  // ---- 30: surely

  static void promise30_refusedAsSeen() {
    for (int tray : NO_TRAYS) {
      refuses("surely(" + tray + ")", x -> x.surely(tray), -2);
    }
    refuses("surely(2)", x -> x.surely(2), -6);
    refuses(() -> with(), "surely of none", x -> x.surely(0), -4);
    refuses(() -> with(times(9, 6)), "surely of nine", x -> x.surely(0), -4);
    refuses(() -> with(6), "surely of 6", x -> x.surely(0), -3);
    refuses(() -> with(1, -2), "surely of -2", x -> x.surely(0), -3);
  }

  static void promise30_oneAndEightNumbers() {
    due("surely of one", with(2).surely(0), 3);
    due("surely of eight", with(2, 0, 0, 0, 0, 0, 0, 0).surely(0), 3);
    due("surely of eight", with(0, 0, 0, 0, 0, 0, 0, 2).surely(0), 3);
  }

  static void promise30_thereAreNone() {
    due("3 of two", with(3).surely(0), 0);
    due("5 of two", with(2, 5).surely(0), 0);
    due("again", with(2, 2).surely(0), 0);
  }

  static void promise30_nobodyAndEverybody() {
    due("nobody held", with(0).surely(0), 0);
    due("one of two", with(1).surely(0), 0);
    due("not seen", with(NONE).surely(0), 0);
    due("both", with(2).surely(0), 3);
    due("all five", tray(of(RODS), 0, 0, 0, 5).surely(0), 31);
    due("four of five", tray(of(RODS), 0, 0, 4).surely(0), 0);
    due("no people", tray(new HandsHeld(), 0, 0, 0).surely(0), 0);
  }

  static void promise30_inSomeHourOfEachRow() {
    // Person 0 in one hour or the other, for person 1 is strong enough for one alone.
    HandsHeld x = tray(of("hall must 1; person side 0 strength 2; person side 0 strength 1;"
        + "tires: strength - held;"), 0, 0, 1, 1);
    due("seen(0)", x.seen(0), 3);
    due("surely(0)", x.surely(0), 1);
  }

  // ---- 31: colds

  private static final String LAW = "hall must 1; person side 0; person side 1 strength 0;"
      + "tires: if held = 1 then strength - cold else 1 + cold end;";

  private static HandsHeld tired(long... numbers) {
    return tray(of(LAW), 0, 3, numbers);
  }

  static void promise31_noSuchTrayOrPersonIsToldAheadOfAMissingTray() {
    for (int tray : NO_TRAYS) {
      refuses("colds(" + tray + ", 0)", x -> x.colds(tray, 0), -2);
      refuses("colds(" + tray + ", 3)", x -> x.colds(tray, 3), -2);
    }
    for (int p : new int[] {-1, 3, 5, LEAST, GREATEST}) {
      refuses("colds(0, " + p + ")", x -> x.colds(0, p), -2);
      refuses("colds(2, " + p + ")", x -> x.colds(2, p), -2);
      refuses("colds(3, " + p + ")", x -> x.colds(3, p), -2);
    }
    refuses(HandsHeld::new, "colds(0, 0)", x -> x.colds(0, 0), -2);
  }

  static void promise31_aMissingTray() {
    refuses("colds(2, 0)", x -> x.colds(2, 0), -6);
  }

  static void promise31_oneToTenNumbers() {
    refuses(() -> tired(), "colds of none", x -> x.colds(0, 0), -4);
    refuses(() -> tired(times(11, 4)), "colds of eleven", x -> x.colds(0, 0), -4);
    refuses(() -> tired(times(40, 4)), "colds of forty", x -> x.colds(0, 0), -4);
    due("colds of one", tired(4).colds(0, 0), 1);
    due("colds of ten", tired(times(10, 4)).colds(0, 0), 1);
    due("colds of ten, the last off", tired(4, 4, 4, 4, 4, 4, 4, 4, 4, 3).colds(0, 0), 0);
  }

  static void promise31_tooManyIsToldAheadOfANumber() {
    refuses(() -> tired(times(11, 5)), "colds of eleven", x -> x.colds(0, 0), -4);
  }

  static void promise31_numbersAre0To4() {
    for (long bad : new long[] {-1, 5, 6, 127, Long.MIN_VALUE, Long.MAX_VALUE, 1L << 32}) {
      refuses(() -> tired(bad), "colds of " + bad, x -> x.colds(0, 0), -3);
      refuses(() -> tired(4, bad), "colds, last " + bad, x -> x.colds(0, 0), -3);
      refuses(() -> tired(bad, 0), "colds, first " + bad, x -> x.colds(0, 0), -3);
    }
    due("colds of 0", tired(0).colds(0, 0), 0x3f0);
    due("colds of 4", tired(4).colds(0, 0), 1);
  }

  static void promise31_coldsFrom0To9AsBits() {
    HandsHeld none = of("hall must 1; person side 0; tires: if cold = 0 then 1 else 2 end;");
    due("only 0", tray(none, 0, 0, 1).colds(0, 0), 1);
    due("all but 0", tray(none, 0, 0, 2).colds(0, 0), 0x3fe);
    due("none", tray(none, 0, 0, 3).colds(0, 0), 0);
    HandsHeld nine = of("hall must 1; person side 0; tires: if cold = 9 then 1 else 2 end;");
    due("only 9", tray(nine, 0, 0, 1).colds(0, 0), 0x200);
    due("all", tray(of(TWO), 0, 0, 1).colds(0, 0), 0x3ff);
  }

  static void promise31_whoCantHoldRests() {
    // At strength 0 nobody holds, so the law tells 1 + cold.
    due("person 1", tired(1).colds(0, 1), 1);
    due("person 1", tired(4).colds(0, 1), 0x3f8);
    due("person 0 falls and rests", tired(2, 0, 3).colds(0, 0), 4);
    due("person 0 falls and rests", tired(3, 2, 1, 0, 2, 1, 0).colds(0, 0), 2);
  }

  static void promise31_itAloneHolds() {
    HandsHeld x = of("hall must 1; person side 0; person side 0; person side 1;"
        + "tires: 2 * held + mates + others;");
    due("colds(0, 0)", tray(x, 0, 0, 2, 2).colds(0, 0), 0x3ff);
    due("colds(0, 2)", tray(x, 0, 0, 3).colds(0, 2), 0);
  }

  static void promise31_theColdThatItIsDoesntMatter() {
    HandsHeld x = tired(3);
    for (int cold = 0; cold <= 9; cold += 9) {
      x.cold(cold);
      due("colds(0, 0)", x.colds(0, 0), 2);
      due("count(5)", x.count(5), cold);
    }
  }

  // ---- 32: attempt

  static void promise32_refusedAsColds() {
    for (int tray : NO_TRAYS) {
      refuses("attempt(" + tray + ", 0)", x -> x.attempt(tray, 0), -2);
    }
    for (int p : new int[] {-1, 3, 5, LEAST, GREATEST}) {
      refuses("attempt(2, " + p + ")", x -> x.attempt(2, p), -2);
      refuses("attempt(3, " + p + ")", x -> x.attempt(3, p), -2);
    }
    refuses("attempt(2, 0)", x -> x.attempt(2, 0), -6);
    refuses(() -> tired(), "attempt of none", x -> x.attempt(0, 0), -4);
    refuses(() -> tired(times(11, 5)), "attempt of eleven", x -> x.attempt(0, 0), -4);
    refuses(() -> tired(5), "attempt of 5", x -> x.attempt(0, 0), -3);
    refuses(() -> tired(4, -1), "attempt of -1", x -> x.attempt(0, 0), -3);
  }

  static void promise32_thereAreNone() {
    due("attempt of one", tired(4, 3).attempt(0, 0), NONE);
    due("attempt of ten", tired(4, 4, 4, 4, 4, 4, 4, 4, 4, 3).attempt(0, 0), NONE);
  }

  static void promise32_ofOneColdNobodyNeedsToHold() {
    due("attempt of one", tired(4).attempt(0, 0), 0);
    due("attempt of ten", tired(times(10, 4)).attempt(0, 0), 0);
  }

  static void promise32_ifAllIsAlikeTheFirstSet() {
    due("attempt(0, 0)", tray(of(TWO), 0, 0, 1).attempt(0, 0), 0);
  }

  static void promise32_theFirstSetByWhichTheGreatestNumberIsLeast() {
    // Told 0 by holding: colds 4 to 9. Resting tells none of them apart; person 1 does by halves.
    HandsHeld x = of("hall must 1; person side 0; person side 1; person side 1;"
        + "tires: if person = 0 then if held = 1 then strength - cold else 4 end else if person = 1"
        + " then if held * cold > 6 then 1 else 4 end else 4 end end;");
    due("attempt(0, 0)", tray(x, 0, 0, 0).attempt(0, 0), 2);
    due("colds(0, 0)", x.colds(0, 0), 0x3f0);
  }

  static void promise32_onlySetsThatCanHold() {
    HandsHeld x = of("hall must 1; person side 0; person side 1 strength 0;"
        + "tires: if person = 1 then held * cold else if others = 1 then cold else 2 end end;");
    due("attempt(0, 0)", tray(x, 0, 0, 2).attempt(0, 0), 0);
    x.soup(1);
    due("attempt(0, 0)", x.attempt(0, 0), 2);
  }

  static void promise32_fromNowOnNotFromBehindWhatWasTold() {
    // Person 1 tells the colds apart by holding now; behind the hour that was told it is rested.
    HandsHeld x = of("hall must 1; person side 0; person side 1 strength 1;"
        + " tires: if person = 1 and"
        + " strength = 1 then if held * cold > 4 then 0 else 2 end else strength end;");
    due("colds(0, 0)", tray(x, 0, 0, 4).colds(0, 0), 0x3ff);
    due("attempt(0, 0)", x.attempt(0, 0), 2);
  }

  static void promise32_fromTheStrengthOfThePersonNow() {
    // Only while person 0 has a strength of 4 a hand of person 1 tells the colds apart.
    HandsHeld x = of("hall must 1; person side 0; person side 0; tires: if person = 0 and mates = 1"
        + " and strength = 4 then if cold > 4 then 1 else 0 end else 2 end;");
    due("colds(0, 0)", tray(x, 0, 0, 2).colds(0, 0), 0x3ff);
    due("attempt(0, 0)", x.attempt(0, 0), 2);
    x.hour(1);
    due("attempt(0, 0)", x.attempt(0, 0), 0);
  }

  static void promise32_theLastSetOfAll() {
    // Only if all five hold the cold is told by their strengths.
    HandsHeld x = of("hall must 1;" + people(5, "person side 0")
        + "tires: if held + mates = 5 then if cold > person * 2 then 1 else 2 end else 4 end;");
    due("attempt(0, 0)", tray(x, 0, 0, 4).attempt(0, 0), 31);
  }

  static void promise32_onlyTheColdsByWhichItWasSo() {
    // Colds 0 and 1 by what was told: only person 1 tells them apart; person 2 all the others.
    HandsHeld x = of("hall must 1; person side 0; person side 0; person side 0;"
        + " tires: if person = 0"
        + " then if cold < 2 then 3 else 2 end else if held = 0 then 4 else if person = 1 then"
        + " if cold = 0 then 1 else 4 end else if cold > 1 then cold - 2 else 4 end end end end;");
    due("colds(0, 0)", tray(x, 0, 0, 3).colds(0, 0), 3);
    due("attempt(0, 0)", x.attempt(0, 0), 2);
    due("colds(0, 0)", tray(x, 0, 0, 2).colds(0, 0), 0x3fc);
    due("attempt(0, 0)", x.attempt(0, 0), 4);
  }

  static void promise32_coldsAtTheirBoundsAreToldApart() {
    for (int cold = 0; cold <= 9; cold += 9) {
      HandsHeld x = of("hall must 1; person side 0; person side 1;"
          + " tires: if person = 1 and held = 1 and cold = " + cold + " then 0 else 4 end;");
      due("colds(0, 0)", tray(x, 0, 0, 4).colds(0, 0), 0x3ff);
      due("attempt(0, 0)", x.attempt(0, 0), 2);
    }
  }

  static void promise32_whoIsHowStrongNotHowStrongTogether() {
    // Persons 0 and 1 have 3 together by each cold, but not each as much.
    HandsHeld x = of("hall must 1; person side 0; person side 0; person side 1;"
        + " tires: if others = 0 or person = 2"
        + " then 2 else if cold > 4 then 1 + person else 2 - person end end;");
    due("colds(0, 0)", tray(x, 0, 0, 2).colds(0, 0), 0x3ff);
    due("attempt(0, 0)", x.attempt(0, 0), 4);
  }

  static void promise32_theFirstAndTheFifthPersonTellTheColdsApart() {
    for (int p = 0; p < 5; p += 4) {
      HandsHeld x = of("hall must 1;" + people(5, "person side 0") + "tires: if person = " + p
          + " and held + mates = 2 and cold > 4 then 1 else 4 end;");
      due("attempt(0, 1)", tray(x, 0, 0, 4).attempt(0, 1), 3);
    }
  }

  static void promise32_whoIsntThereTellsNothing() {
    HandsHeld x = of("hall must 1; person side 0; person side 0;"
        + " tires: if person > 1 and mates + others > 0 then cold else 4 end;");
    due("attempt(0, 0)", tray(x, 0, 0, 4).attempt(0, 0), 0);
  }

  static void promise32_twoSetsAlikeTheFirst() {
    // One cold of two each by set 1, one of two each by set 2 and 3, too.
    HandsHeld x = of("hall must 1; person side 0; person side 0;"
        + " tires: if held + mates = 0 then 4 else if cold > 4 then 3 else 2 end end;");
    due("colds(0, 0)", tray(x, 0, 0, 2).colds(0, 0), 0x1f);
    due("attempt(0, 0)", x.attempt(0, 0), 0);
  }

  static void promise31_theFifthPersonHolds() {
    HandsHeld x = of("hall must 1;" + people(5, "person side 0")
        + "tires: if held = 1 then cold else 4 end;");
    for (int p = 0; p < 5; p++) {
      due("colds(0, " + p + ")", tray(x, 0, 0, 2, 2).colds(0, p), 4);
      due("colds(0, " + p + ")", tray(x, 0, 0, 0, 4, 0, 4).colds(0, p), 1);
    }
  }

  private static final String[] HALLS = {"hall must 1; person side 0 strength 3; person side 1;",
      "hall must 1; person side 0 strength 1; person side 1 rod; person side 0 strength 2;",
      "hall must 1;", "hall must 2; person side 0; person side 1; person side 0; person side 1;"};

  static void promise28_anotherHallBeforeDoesntMatter() {
    for (String text : HALLS) {
      for (int hands = -1; hands <= 4; hands++) {
        int told = hands;
        Maker used = () -> tray(used(), 0, 0, told, NONE, 1);
        HandsHeld x = used.make();
        tell(x, text);
        HandsHeld fresh = tray(of(text), 0, 0, told, NONE, 1);
        due("seen(0) of " + text, x.seen(0), fresh.seen(0));
        due("surely(0) of " + text, x.surely(0), fresh.surely(0));
        for (int i = 0; i < 3; i++) {
          due("seenBy(0, " + i + ") of " + text, x.seenBy(0, i), fresh.seenBy(0, i));
        }
      }
    }
  }
}
