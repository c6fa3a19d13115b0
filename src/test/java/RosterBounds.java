/** Boundary cases of promises 16 to 20: holds, roster, rosters, most, needed. */
final class RosterBounds extends Bounds {
  private static final String ONE = "hall must 1; person side 0 strength 3; person side 1;";
  private static final String EVER = "hall must 1; person side 0 strength 1 rod; person side 1;";
  private static final String RODS = "hall must 5;" + people(5, "person side 1 rod");
  private static final int[] NO_SIDES = {-1, 2, 3, LEAST, GREATEST};

  // ---- 16: holds

  static void promise16_noSuchSide() {
    for (int side : NO_SIDES) {
      refuses("holds(" + side + ")", x -> x.holds(side), -2);
    }
  }

  static void promise16_noHourIfItCantStandAtAll() {
    due("nobody", new HandsHeld().holds(0), 0);
    due("nobody there", of("hall must 1; person side 0;").holds(1), 0);
    due("strength 0", of("hall must 1; person side 0 strength 0;").holds(0), 0);
    due("too few", of("hall must 2; person side 0 rod;").holds(0), 0);
    due("none counts", of("hall must 1; person side 0 rod; counts: 1 = 2;").holds(0), 0);
  }

  static void promise16_justAsManyAsMustBeHeldAreEnough() {
    due("five of five", of(RODS).holds(1), NONE);
    due("four of five", of("hall must 5;" + people(4, "person side 1 rod")).holds(1), 0);
    due("both", of("hall must 2; person side 0 strength 1; person side 0 strength 3;").holds(0), 1);
  }

  static void promise16_ifNoHandMustBeHeldForEver() {
    HandsHeld x = of("hall must 0; person side 0 strength 0;");
    due("holds(0)", x.holds(0), NONE);
    due("holds(1)", x.holds(1), NONE);
    due("nobody", of("hall must 0;").holds(0), NONE);
  }

  static void promise16_oneHourByAStrengthOf1() {
    due("holds(0)", of("hall must 1; person side 0 strength 1;").holds(0), 1);
    due("holds(0)", of("hall must 1; person side 0;").holds(0), 4);
  }

  static void promise16_forEverByTurnsOrNot() {
    due("two by turns", of("hall must 1; person side 0 strength 1;"
        + " person side 0 strength 1;").holds(0), NONE);
    due("one and a weak one", of("hall must 1; person side 0 strength 1; person side 0 strength 0;")
        .holds(0), NONE);
    due("two of three", of("hall must 2;" + people(3, "person side 0 strength 1")).holds(0), 1);
    due("two of four", of("hall must 2;" + people(4, "person side 0 strength 1")).holds(0), NONE);
  }

  static void promise16_theMostHoursAreFewUnderAHardLaw() {
    due("all end", of("hall must 1;" + people(5, "person side 0") + "tires: strength -"
        + " held;").holds(0), 20);
    due("all tire", of("hall must 1;" + people(5, "person side 0") + "tires: strength -"
        + " 1;").holds(0), 4);
  }

  static void promise16_nobodyOfTheOtherSideHolds() {
    HandsHeld x = of("hall must 1; person side 0 strength 2; person side 1;"
        + "tires: if others > 0 then 4 else strength - held end;");
    due("holds(0)", x.holds(0), 2);
  }

  static void promise16_handsThatDontCountMayBeHeldToo() {
    HandsHeld x = of("hall must 1; person side 0; person side 0 weight 0;"
        + "counts: weight = 1; tires: if mates = 1 then strength else 0 end;");
    due("holds(0)", x.holds(0), NONE);
    due("roster(0, 0)", x.roster(0, 0), 3);
  }

  static void promise16_handsCountAsAllIsAheadOfEachHour() {
    HandsHeld x = of("hall must 1; person side 0; counts: strength > 2;");
    due("holds(0)", x.holds(0), 2);
    due("roster(0, 1)", x.roster(0, 1), 1);
    due("roster(0, 2)", x.roster(0, 2), NONE);
    HandsHeld late = of("hall must 1; person side 0; counts: strength < 4;");
    due("holds(0)", late.holds(0), 0);
    late.hour(1);
    due("holds(0)", late.holds(0), 3);
  }

  /**
   * The strengths count down like the digits of a number, person 0's the lowest: if 0 to p hold,
   * p's falls by one and those below are 4 again; who holds in other ways falls to 0. So those
   * below can go down to 1 each time, and to 0 behind p's last.
   */
  static void promise16_manyHours() {
    String law = "tires: if held + mates > person + 1 then 4 else if held + mates = person + 1 then"
        + " strength - held else strength * (1 - held) end end;";
    int[] hours = {4, 20, 84, 340, 1364};
    for (int n = 1; n <= 5; n++) {
      HandsHeld x = of("hall must 1;" + people(n, "person side 1") + law);
      due("holds(1) of " + n, x.holds(1), hours[n - 1]);
    }
    HandsHeld x = of("hall must 1;" + people(5, "person side 1") + law);
    due("roster(1, 2)", x.roster(1, 2), 1);
    due("roster(1, 3)", x.roster(1, 3), 3);
    due("roster(1, 15)", x.roster(1, 15), 7);
    due("roster(1, 63)", x.roster(1, 63), 15);
    due("roster(1, 99)", x.roster(1, 99), 3);
    due("most(1, 4)", x.most(1, 4), 5);
    due("most(1, 20)", x.most(1, 20), 4);
    tray(x, 0, 0, times(40, 0));
    due("lists(0, 1)", x.lists(0, 1), 40);
    for (int i = 0; i < 300; i++) {
      due("hour", x.hour(x.roster(1, 0)), 2);
    }
    due("holds(1)", x.holds(1), 1064);
  }

  static void promise16_nothingIsDone() {
    HandsHeld x = of(ONE);
    x.holds(0);
    due("count(6)", x.count(6), 0);
    due("count(7)", x.count(7), 0);
    due("person(0, 1)", x.person(0, 1), 3);
  }

  static void promise16_asTheColdIsNow() {
    HandsHeld x = of("hall must 1; person side 0;"
        + " tires: if cold > 4 then 0 else strength - held end;");
    due("holds(0)", x.holds(0), 4);
    x.cold(5);
    due("holds(0)", x.holds(0), 1);
    x.cold(4);
    due("holds(0)", x.holds(0), 4);
    x.undo(1);
    due("holds(0)", x.holds(0), 1);
    HandsHeld y = of("hall must 1; person side 0; cold 9; counts: cold < 9;");
    due("holds(0)", y.holds(0), 0);
    y.cold(8);
    due("holds(0)", y.holds(0), 4);
  }

  static void promise16_asSidesAreNow() {
    HandsHeld x = of("hall must 1; person side 0 strength 2; person side 1 strength 3;"
        + " tires: strength - held;");
    due("holds(0)", x.holds(0), 2);
    x.change(1);
    due("holds(0)", x.holds(0), 5);
    due("holds(1)", x.holds(1), 0);
    x.change(0);
    due("holds(0)", x.holds(0), 3);
    due("holds(1)", x.holds(1), 2);
    x.undo(2);
    due("holds(0)", x.holds(0), 2);
  }

  static void promise16_asStrengthsAreNow() {
    HandsHeld x = of("hall must 1; person side 0 strength 2;");
    due("holds(0)", x.holds(0), 2);
    x.hour(1);
    due("holds(0)", x.holds(0), 1);
    x.hour(1);
    due("holds(0)", x.holds(0), 0);
    x.soup(0);
    due("holds(0)", x.holds(0), 4);
  }

  private static final String[] HALLS = {"hall must 1; person side 0 strength 3; person side 1;",
      "hall must 1; person side 0 strength 1; person side 1 rod; person side 0 strength 2;",
      "hall must 1;", "hall must 2; person side 0; person side 1; person side 0; person side 1;",
      "hall must 1; person side 0; person side 0; person side 1; person side 0 strength 0;"
          + "person side 1 strength 0; tires: strength - held; counts: strength > 1;"};

  static void promise16_anotherHallBeforeDoesntMatter() {
    for (String text : HALLS) {
      for (int side = 0; side < 2; side++) {
        int told = side;
        asOnANewObject(text, "holds(" + side + ")", x -> x.holds(told));
        asOnANewObject(text, "roster(" + side + ", 1)", x -> x.roster(told, 1));
        asOnANewObject(text, "rosters(" + side + ", 3)", x -> x.rosters(told, 3));
        asOnANewObject(text, "most(" + side + ", 2)", x -> x.most(told, 2));
        asOnANewObject(text, "needed(" + side + ", 3)", x -> x.needed(told, 3));
      }
    }
  }

  // ---- 17: roster

  static void promise17_noSuchSideIsToldAheadOfTheHour() {
    for (int side : NO_SIDES) {
      refuses("roster(" + side + ", 0)", x -> x.roster(side, 0), -2);
      refuses("roster(" + side + ", -1)", x -> x.roster(side, -1), -2);
      refuses("roster(" + side + ", 100)", x -> x.roster(side, 100), -2);
    }
  }

  static void promise17_hoursBelow0OrAbove99() {
    for (int i : new int[] {-1, 100, 101, LEAST, GREATEST}) {
      refuses("roster(0, " + i + ")", x -> x.roster(0, i), -3);
      refuses("roster(1, " + i + ")", x -> x.roster(1, i), -3);
      refuses(HandsHeld::new, "roster(0, " + i + ") of nobody", x -> x.roster(0, i), -3);
    }
  }

  static void promise17_theLastHourAndNoneBehindIt() {
    HandsHeld x = of(ONE);
    due("roster(0, 0)", x.roster(0, 0), 1);
    due("roster(0, 2)", x.roster(0, 2), 1);
    due("roster(0, 3)", x.roster(0, 3), NONE);
    due("roster(0, 99)", x.roster(0, 99), NONE);
    due("roster(1, 3)", x.roster(1, 3), 2);
    due("roster(1, 4)", x.roster(1, 4), NONE);
  }

  static void promise17_withoutAnHourThereIsNone() {
    due("roster(0, 0)", new HandsHeld().roster(0, 0), NONE);
    due("roster(1, 0)", of("hall must 1; person side 0;").roster(1, 0), NONE);
  }

  static void promise17_forEverUpTo99() {
    HandsHeld x = of(EVER);
    due("roster(0, 0)", x.roster(0, 0), 1);
    due("roster(0, 98)", x.roster(0, 98), 1);
    due("roster(0, 99)", x.roster(0, 99), 1);
    due("roster(0, 100)", x.roster(0, 100), -3);
  }

  static void promise17_ifNoHandMustBeHeldNobodyHolds() {
    HandsHeld x = of("hall must 0; person side 0; person side 1;");
    due("roster(0, 0)", x.roster(0, 0), 0);
    due("roster(1, 99)", x.roster(1, 99), 0);
  }

  static void promise17_ofLikeOnesTheFirstBySets() {
    HandsHeld x = of("hall must 1; person side 0 strength 1; person side 0 strength 2;"
        + "tires: strength - held;");
    int[] want = {1, 2, 2, NONE};
    for (int i = 0; i < 4; i++) {
      due("roster(0, " + i + ")", x.roster(0, i), want[i]);
    }
  }

  static void promise17_forEverTheFirstSetByWhichItStillCan() {
    // Person 0 alone would do for a while, only the rod for ever.
    HandsHeld x = of("hall must 1; person side 0; person side 0 strength 1 rod;"
        + "tires: if rod = 1 then strength else strength - held end;");
    due("roster(0, 0)", x.roster(0, 0), 1);
    due("roster(0, 3)", x.roster(0, 3), 1);
    due("roster(0, 4)", x.roster(0, 4), 2);
    due("roster(0, 99)", x.roster(0, 99), 2);
  }

  static void promise17_forEverASetThatEndsItIsPassedOver() {
    // One rest spends person 1, and person 0 alone can't for ever.
    HandsHeld x = of("hall must 1; person side 0; person side 0; tires: if person = 1 then"
        + " strength * held else strength - held end;");
    due("holds(0)", x.holds(0), NONE);
    due("roster(0, 0)", x.roster(0, 0), 2);
    due("roster(0, 50)", x.roster(0, 50), 2);
  }

  static void promise17_allFiveAsBits() {
    due("roster(1, 99)", of(RODS).roster(1, 99), 31);
    due("roster(0, 0)", of(RODS).roster(0, 0), NONE);
  }

  // ---- 18: rosters

  static void promise18_noSuchSideIsToldAheadOfN() {
    for (int side : NO_SIDES) {
      refuses("rosters(" + side + ", 1)", x -> x.rosters(side, 1), -2);
      refuses("rosters(" + side + ", -1)", x -> x.rosters(side, -1), -2);
      refuses("rosters(" + side + ", 11)", x -> x.rosters(side, 11), -2);
    }
  }

  static void promise18_nIs0To10() {
    for (int n : new int[] {-1, 11, 12, LEAST, GREATEST}) {
      refuses("rosters(0, " + n + ")", x -> x.rosters(0, n), -3);
      refuses("rosters(1, " + n + ")", x -> x.rosters(1, n), -3);
    }
    HandsHeld x = of(EVER);
    due("rosters(0, 0)", x.rosters(0, 0), 1);
    due("rosters(0, 10)", x.rosters(0, 10), 1);
  }

  static void promise18_ofNoHourThereIsJustOne() {
    due("rosters(0, 0)", new HandsHeld().rosters(0, 0), 1);
    due("rosters(1, 0)", of("hall must 5; person side 0;").rosters(1, 0), 1);
  }

  static void promise18_ofMoreHoursThanItHoldsThereIsNone() {
    HandsHeld x = of(ONE);
    due("rosters(0, 3)", x.rosters(0, 3), 1);
    due("rosters(0, 4)", x.rosters(0, 4), 0);
    due("rosters(0, 10)", x.rosters(0, 10), 0);
    due("nobody", new HandsHeld().rosters(0, 1), 0);
  }

  static void promise18_ofFewerHoursThanItHoldsToo() {
    due("rosters(0, 1)", of(ONE).rosters(0, 1), 1);
    due("rosters(0, 2)", of(ONE).rosters(0, 2), 1);
    due("rosters(0, 2)", of("hall must 1;" + people(2, "person side 0")).rosters(0, 2), 9);
  }

  static void promise18_onlyHandsThatCountMakeItStand() {
    HandsHeld x = of("hall must 1; person side 0; person side 0 weight 2; counts: weight = 2;");
    due("rosters(0, 1)", x.rosters(0, 1), 2);
    due("rosters(0, 3)", x.rosters(0, 3), 8);
    HandsHeld tired = of("hall must 1; person side 0; counts: strength > 2;");
    due("rosters(0, 2)", tired.rosters(0, 2), 1);
    due("rosters(0, 3)", tired.rosters(0, 3), 0);
  }

  static void promise18_asManyAsThereCanBe() {
    HandsHeld x = of("hall must 0;" + people(5, "person side 0 rod"));
    due("rosters(0, 10)", x.rosters(0, 10), 1L << 50);
    due("rosters(0, 7)", x.rosters(0, 7), 1L << 35);
    due("rosters(1, 10)", x.rosters(1, 10), 1);
    HandsHeld one = of("hall must 1;" + people(5, "person side 0 rod"));
    due("rosters(0, 10)", one.rosters(0, 10), 819628286980801L);
    due("rosters(1, 10)", of(RODS).rosters(1, 10), 1);
  }

  // ---- 19: most

  static void promise19_noSuchSideIsToldAheadOfN() {
    for (int side : NO_SIDES) {
      refuses("most(" + side + ", 1)", x -> x.most(side, 1), -2);
      refuses("most(" + side + ", 0)", x -> x.most(side, 0), -2);
      refuses("most(" + side + ", 21)", x -> x.most(side, 21), -2);
    }
  }

  static void promise19_nIs1To20() {
    for (int n : new int[] {0, -1, 21, 22, LEAST, GREATEST}) {
      refuses("most(0, " + n + ")", x -> x.most(0, n), -3);
      refuses("most(1, " + n + ")", x -> x.most(1, n), -3);
    }
    due("most(0, 1)", of(EVER).most(0, 1), 1);
    due("most(0, 20)", of(EVER).most(0, 20), 1);
  }

  static void promise19_noneIs0() {
    due("nobody", new HandsHeld().most(0, 1), 0);
    due("nobody there", of("hall must 0; person side 0;").most(1, 1), 0);
    due("strength 0", of("hall must 0; person side 0 strength 0;").most(0, 1), 0);
    due("none counts", of("hall must 0; person side 0; counts: 1 = 2;").most(0, 1), 0);
  }

  static void promise19_allFiveAreTheMost() {
    due("most(1, 20)", of(RODS).most(1, 20), 5);
    due("most(0, 4)", of("hall must 1;" + people(5, "person side 0")).most(0, 4), 5);
  }

  static void promise19_justAsLongAsItCan() {
    HandsHeld x = of("hall must 5; person side 0 strength 3; person side 0 strength 2;"
        + "tires: strength - held;");
    due("most(0, 1)", x.most(0, 1), 2);
    due("most(0, 2)", x.most(0, 2), 2);
    due("most(0, 3)", x.most(0, 3), 1);
    due("most(0, 5)", x.most(0, 5), 1);
    due("most(0, 6)", x.most(0, 6), 0);
    HandsHeld twenty = of("hall must 1;" + people(5, "person side 0") + "tires: strength - held;");
    due("most(0, 20)", twenty.most(0, 20), 1);
    due("most(0, 10)", twenty.most(0, 10), 2);
    due("most(0, 11)", twenty.most(0, 11), 1);
    HandsHeld less = of("hall must 1;" + people(4, "person side 0")
        + "person side 0 strength 3; tires: strength - held;");
    due("most(0, 19)", less.most(0, 19), 1);
    due("most(0, 20)", less.most(0, 20), 0);
  }

  static void promise19_onlyHandsThatCount() {
    HandsHeld x = of("hall must 1; person side 0; person side 0; counts: strength > person * 2;");
    due("most(0, 2)", x.most(0, 2), 2);
    due("most(0, 3)", x.most(0, 3), 1);
  }

  static void promise19_whateverMustBeHeld() {
    for (int must = 0; must <= 5; must++) {
      due("most(0, 4)", of("hall must " + must + "; person side 0;").most(0, 4), 1);
      due("most(0, 5)", of("hall must " + must + "; person side 0;").most(0, 5), 0);
    }
  }

  // ---- 20: needed

  static void promise20_noSuchSideIsToldAheadOfN() {
    for (int side : NO_SIDES) {
      refuses("needed(" + side + ", 1)", x -> x.needed(side, 1), -2);
      refuses("needed(" + side + ", 0)", x -> x.needed(side, 0), -2);
      refuses("needed(" + side + ", 21)", x -> x.needed(side, 21), -2);
    }
  }

  static void promise20_nIs1To20() {
    for (int n : new int[] {0, -1, 21, 22, LEAST, GREATEST}) {
      refuses("needed(0, " + n + ")", x -> x.needed(0, n), -3);
      refuses("needed(1, " + n + ")", x -> x.needed(1, n), -3);
    }
    due("needed(0, 1)", of(EVER).needed(0, 1), 1);
    due("needed(0, 20)", of(EVER).needed(0, 20), 1);
  }

  static void promise20_itCantAnyhow() {
    due("needed(0, 4)", of(ONE).needed(0, 4), 0);
    due("needed(0, 3)", of(ONE).needed(0, 3), 1);
    due("nobody", new HandsHeld().needed(0, 1), 0);
    due("too few", of("hall must 2; person side 0 rod;").needed(0, 1), 0);
  }

  static void promise20_nobodyIsNeeded() {
    due("0 hands", of("hall must 0; person side 0 rod;").needed(0, 20), 0);
    due("either", of("hall must 1; person side 0 rod; person side 0 rod;").needed(0, 20), 0);
  }

  static void promise20_allFiveAreNeeded() {
    due("needed(1, 20)", of(RODS).needed(1, 20), 31);
    due("needed(0, 20)", of(RODS).needed(0, 20), 0);
    due("four of five", of("hall must 4;" + people(5, "person side 1 rod")).needed(1, 20), 0);
  }

  static void promise20_neededFromJustSoManyHoursOn() {
    HandsHeld x = of("hall must 1; person side 0 strength 3; person side 0 strength 2;"
        + "tires: strength - held;");
    due("needed(0, 2)", x.needed(0, 2), 0);
    due("needed(0, 3)", x.needed(0, 3), 1);
    due("needed(0, 4)", x.needed(0, 4), 3);
    due("needed(0, 5)", x.needed(0, 5), 3);
    due("needed(0, 6)", x.needed(0, 6), 0);
    HandsHeld twenty = of("hall must 1;" + people(5, "person side 0") + "tires: strength - held;");
    due("needed(0, 16)", twenty.needed(0, 16), 0);
    due("needed(0, 17)", twenty.needed(0, 17), 31);
    due("needed(0, 20)", twenty.needed(0, 20), 31);
  }

  static void promise20_peopleOfTheSideAlone() {
    HandsHeld x = of("hall must 1; person side 0 rod; person side 1 rod;");
    due("needed(0, 1)", x.needed(0, 1), 1);
    due("needed(1, 1)", x.needed(1, 1), 2);
  }
}
