/** Boundary cases of promises 21 to 27: stands, rested, restBy, steady, outcome, tells, ends. */
final class CanBeBounds extends Bounds {
  private static final String FIVE = "hall must 1; person side 0; person side 1; person side 0;"
      + "person side 1; person side 0;";

  // ---- 21: stands

  static void promise21_withoutPeopleOneWay() {
    due("stands()", new HandsHeld().stands(), 1);
  }

  static void promise21_asTheyAreIsOneOfThem() {
    due("a rod", of("hall must 1; person side 0 rod strength 0;").stands(), 1);
    due("at once another", of("hall must 1; person side 0 strength 3; tires: 1;").stands(), 2);
    due("the same", of("hall must 1; person side 0 strength 3; tires: 3;").stands(), 1);
  }

  static void promise21_allWays() {
    due("one", of("hall must 1; person side 0;").stands(), 5);
    due("four", of("hall must 5;" + people(4, "person side 0 strength 0")).stands(), 625);
    due("five", of(FIVE).stands(), 3125);
  }

  static void promise21_aStrengthOf0CantHold() {
    HandsHeld x = of("hall must 1; person side 0 strength 0;"
        + " tires: if held = 1 then 4 else strength end;");
    due("stands()", x.stands(), 1);
    x.soup(0);
    due("stands()", x.stands(), 1);
    HandsHeld one = of("hall must 1; person side 0 strength 1; tires: if held = 1 then 4 else"
        + " strength end;");
    due("stands()", one.stands(), 2);
  }

  static void promise21_theWeakRestWhileOthersHold() {
    // All grow by one each hour, whoever holds: who is at 0 can't stay there.
    due("two", of("hall must 1; person side 0 strength 0; person side 1 strength 0;"
        + " tires: strength + 1;").stands(), 5);
    due("two", of("hall must 1; person side 0 strength 0; person side 1 strength 1;"
        + " tires: strength + 1;").stands(), 5);
  }

  static void promise21_whetherASideStandsOrNot() {
    due("stands()", of("hall must 5; person side 0; counts: 1 = 2;").stands(), 5);
  }

  static void promise21_nothingIsDone() {
    HandsHeld x = of(FIVE);
    x.stands();
    due("strengths", strengths(x), 44444);
    due("count(6)", x.count(6), 0);
    due("count(7)", x.count(7), 0);
  }

  // ---- 22: rested

  static void promise22_nIs0To4() {
    for (int n : new int[] {-1, 5, 6, LEAST, GREATEST}) {
      refuses("rested(" + n + ")", x -> x.rested(n), -3);
      refuses(HandsHeld::new, "rested(" + n + ") of nobody", x -> x.rested(n), -3);
    }
  }

  static void promise22_asTheyAreNoHour() {
    due("rested(0)", of("hall must 1; person side 0 strength 0;").rested(0), 0);
    due("rested(3)", of("hall must 1; person side 0 strength 3;").rested(3), 0);
    due("rested(4)", of(FIVE).rested(4), 0);
    due("nobody", new HandsHeld().rested(4), 0);
  }

  static void promise22_oneMoreIsOneHour() {
    HandsHeld x = of("hall must 1; person side 0 strength 0; person side 1 strength 3;");
    for (int n = 0; n <= 4; n++) {
      due("rested(" + n + ")", x.rested(n), n);
    }
  }

  static void promise22_itCantBe() {
    due("a rod", of("hall must 1; person side 0 rod strength 3;").rested(4), NONE);
    due("it could be", of("hall must 1; person side 0 rod strength 3;").rested(3), 0);
    due("one of two", of("hall must 1; person side 0;"
        + " person side 0 rod strength 0;").rested(1), NONE);
  }

  static void promise22_allAtTheSameTime() {
    // Each can come to 4, but only while the other one falls.
    HandsHeld x = of("hall must 1; person side 0 strength 2; person side 1 strength 2;"
        + "tires: strength + held - others;");
    due("rested(2)", x.rested(2), 0);
    due("rested(3)", x.rested(3), NONE);
  }

  // ---- 23: restBy

  static void promise23_nIs0To4() {
    for (int n : new int[] {-1, 5, 6, LEAST, GREATEST}) {
      refuses("restBy(" + n + ", 0)", x -> x.restBy(n, 0), -3);
      refuses("restBy(" + n + ", -1)", x -> x.restBy(n, -1), -3);
    }
  }

  static void promise23_anHourBelow0() {
    for (int n = 0; n <= 4; n++) {
      int told = n;
      refuses("restBy(" + n + ", -1)", x -> x.restBy(told, -1), -3);
    }
    refuses("restBy(4, least)", x -> x.restBy(4, LEAST), -3);
    refuses(() -> of("hall must 1; person side 0 rod strength 3;"), "restBy(4, -1)",
        x -> x.restBy(4, -1), -3);
  }

  static void promise23_theLastHourAndNoneBehindIt() {
    HandsHeld x = of("hall must 1; person side 0 strength 1; tires: strength + held;");
    due("rested(4)", x.rested(4), 3);
    due("restBy(4, 0)", x.restBy(4, 0), 1);
    due("restBy(4, 2)", x.restBy(4, 2), 1);
    due("restBy(4, 3)", x.restBy(4, 3), NONE);
    due("restBy(4, 100)", x.restBy(4, 100), NONE);
    due("restBy(4, greatest)", x.restBy(4, GREATEST), NONE);
  }

  static void promise23_withoutAnHourThereIsNone() {
    due("restBy(4, 0)", of(FIVE).restBy(4, 0), NONE);
    due("restBy(0, 0)", of(FIVE).restBy(0, 0), NONE);
    due("nobody", new HandsHeld().restBy(4, 0), NONE);
  }

  static void promise23_itCantBe() {
    due("restBy(4, 0)", of("hall must 1; person side 0 rod strength 3;").restBy(4, 0), NONE);
  }

  static void promise23_ofLikeOnesTheFirstBySets() {
    // Two hours in which somebody holds: by person 0 twice, not by person 1.
    HandsHeld x = of("hall must 1; person side 0 strength 2; person side 1 strength 2;"
        + "tires: strength + if held + mates + others > 0 then 1 else 0 end;");
    due("rested(4)", x.rested(4), 2);
    due("restBy(4, 0)", x.restBy(4, 0), 1);
    due("restBy(4, 1)", x.restBy(4, 1), 1);
    // A free hour first, since one of three may be spent.
    HandsHeld free = of("hall must 1; person side 0 strength 1; person side 0 strength 2;"
        + "tires: if person = 0 then strength + 1 else strength + held end;");
    int[] want = {0, 2, 2, NONE};
    for (int i = 0; i < 4; i++) {
      due("restBy(4, " + i + ")", free.restBy(4, i), want[i]);
    }
  }

  static void promise23_allFiveAsBits() {
    HandsHeld x = of("hall must 1;" + people(5, "person side 0 strength 3")
        + "tires: strength + held * 2 - 1;");
    due("rested(4)", x.rested(4), 1);
    due("restBy(4, 0)", x.restBy(4, 0), 31);
    due("restBy(4, 1)", x.restBy(4, 1), NONE);
  }

  // ---- 24: steady

  static void promise24_noneUpToAllSets() {
    due("none", of("hall must 1; person side 0 strength 3;").steady(), 0);
    due("nobody holding", of(FIVE).steady(), 1);
    due("all", of("hall must 1;" + people(5, "person side 0 rod")).steady(), 32);
    due("no people", new HandsHeld().steady(), 1);
  }

  static void promise24_eachStrengthNotAllTogether() {
    // One less for the one, one more for the other.
    HandsHeld x = of("hall must 1; person side 0 strength 2; person side 1 strength 2;");
    due("steady()", x.steady(), 0);
    // Only if both hold they don't change with one another.
    due("steady()", of("hall must 1; person side 0 strength 1; person side 1 strength 2;"
        + " tires: if held = 1 then strength else 2 - person end;").steady(), 1);
  }

  static void promise24_onlySetsThatCanHold() {
    due("strength 0", of("hall must 1; person side 0 rod strength 0;").steady(), 1);
    due("strength 1", of("hall must 1; person side 0 rod strength 1;").steady(), 2);
    due("one of five", of("hall must 1;" + people(4, "person side 0 rod")
        + "person side 1 rod strength 0;").steady(), 16);
  }

  static void promise24_atTheBoundsOfAStrength() {
    due("4 stays 4", of("hall must 1; person side 0; tires: strength + 1;").steady(), 2);
    due("0 stays 0", of("hall must 1; person side 0 strength 0; tires: strength - 1;").steady(), 1);
    due("3 doesn't", of("hall must 1; person side 0 strength 3; tires: strength + 1;").steady(), 0);
    due("1 doesn't", of("hall must 1; person side 0 strength 1; tires: strength - 1;").steady(), 0);
  }

  // ---- 25 to 27: holding out

  private static void holdingOut(String text, int outcome, int tells, int ends) {
    HandsHeld x = of(text);
    due("outcome() of " + text, x.outcome(), outcome);
    due("tells() of " + text, x.tells(), tells);
    due("ends() of " + text, x.ends(), ends);
    due("tells() alone of " + text, of(text).tells(), tells);
    due("ends() alone of " + text, of(text).ends(), ends);
    due("hours", x.count(6), 0);
    due("calls", x.count(7), 0);
  }

  static void promise25_allFiveOnOneSide() {
    holdingOut("hall must 5;" + people(5, "person side 1"), -1, 0, 1);
    holdingOut("hall must 5;" + people(5, "person side 0"), 1, 31, 1);
    holdingOut("hall must 5;" + people(4, "person side 1") + "person side 1 strength 0;", 0, 0,
        NONE);
  }

  static void promise25_withoutPeopleBothLoseAtOnce() {
    HandsHeld x = new HandsHeld();
    due("outcome()", x.outcome(), 0);
    due("tells()", x.tells(), 0);
    due("ends()", x.ends(), NONE);
  }

  static void promise25_ifNoHandMustBeHeldNobodyEverLoses() {
    holdingOut("hall must 0;", 0, 0, NONE);
    holdingOut("hall must 0; person side 0 strength 0; person side 1;", 0, 0, NONE);
  }

  static void promise25_bothAtOnce() {
    holdingOut("hall must 1; person side 0 strength 0; person side 1 strength 0;", 0, 0, NONE);
    holdingOut("hall must 5; person side 0; person side 1;", 0, 0, NONE);
    holdingOut("hall must 1; person side 0 strength 1; person side 1 strength 1;", 0, 1, NONE);
  }

  static void promise25_nobodyEver() {
    holdingOut("hall must 1; person side 0 rod; person side 1 rod;", 0, 1, NONE);
  }

  static void promise25_theOtherOneLosesAlone() {
    holdingOut("hall must 1; person side 0 strength 1;", 1, 1, 1);
    holdingOut("hall must 1; person side 0 strength 2; person side 1 strength 1;", 1, 1, 2);
    holdingOut("hall must 1; person side 0; person side 1 strength 3;", 1, 1, 4);
  }

  static void promise25_itLosesAlone() {
    holdingOut("hall must 1; person side 1 strength 1;", -1, 0, 1);
    holdingOut("hall must 1; person side 0 strength 1; person side 1 strength 2;", -1, 1, 2);
    holdingOut("hall must 1; person side 0 strength 3; person side 1;", -1, 1, 4);
  }

  static void promise25_aHandThatDoesntCountDoesntStand() {
    holdingOut("hall must 1; person side 0; person side 1; counts: side = 1;", -1, 0, 1);
    holdingOut("hall must 1; person side 0; person side 1; counts: side = 0;", 1, 1, 1);
  }

  static void promise25_ratherBothAtOnceThanAlone() {
    // Two hands of one side spend all at once; one alone would only put off its loss.
    holdingOut("hall must 1; person side 0 strength 1; person side 0 strength 1; person side 1;"
        + "tires: if side = 0 then strength - held else if others > 1 then 0 else strength end"
        + " end;", 0, 3, NONE);
    holdingOut("hall must 1; person side 0; person side 1 strength 1; person side 1 strength 1;"
        + "tires: if side = 1 then strength - held else if others > 1 then 0 else strength end"
        + " end;", 0, 1, NONE);
  }

  static void promise25_sideOneKnowsWhatSideZeroTold() {
    // As many hands on both sides spend side 0, else side 1: who tells last has its way.
    holdingOut("hall must 1;" + people(2, "person side 0") + people(2, "person side 1")
        + "tires: if side = 0 then if held + mates = others then 0 else strength end"
        + " else if held + mates = others then strength else 0 end end;", -1, 1, 2);
  }

  static void promise26_theFirstSetByNumbers() {
    holdingOut("hall must 1; person side 1 rod; person side 0 rod; person side 0 rod;", 0, 2, NONE);
    holdingOut("hall must 1; person side 1 strength 0; person side 0 rod; person side 0 rod;", 1, 2,
        1);
  }

  static void promise26_ifItLosesAtOnceNobodyHolds() {
    holdingOut("hall must 2; person side 0; person side 1; person side 1;", -1, 0, 1);
  }

  static void promise26_allFiveAsBits() {
    holdingOut("hall must 5;" + people(5, "person side 0"), 1, 31, 1);
  }

  static void promise26_peopleOfSideZeroAlone() {
    holdingOut("hall must 1; person side 1; person side 1; person side 1; person side 1;"
        + "person side 0 strength 1;", -1, 16, 2);
  }

  static void promise26_whoWinsTellsTheSoonest() {
    // Two hands at once wear the others out in an hour, one alone never in so few.
    holdingOut("hall must 1; person side 1 strength 3; person side 0 rod; person side 0 rod;"
        + "tires: if rod = 1 then strength else if others > 1 then 0 else strength - held end end;",
        1, 6, 2);
  }

  static void promise26_whoLosesTellsTheLatest() {
    holdingOut("hall must 1; person side 0 strength 1; person side 0 strength 3; person side 1 rod;"
        + "tires: if rod = 1 then strength else strength - 1 end;", -1, 1, 4);
    holdingOut("hall must 1; person side 0 strength 1; person side 0 strength 3; person side 1 rod;"
        + "tires: if rod = 1 then strength else strength - 1 - mates end;", -1, 2, 4);
  }

  static void promise25_handsCountAsAllIsAheadOfEachHour() {
    holdingOut("hall must 1; person side 0; person side 1 rod; counts: rod = 1 or strength > 2;",
        -1, 1, 3);
    holdingOut("hall must 1; person side 0 rod; person side 1; counts: rod = 1 or strength > 2;",
        1, 1, 3);
  }

  static void promise25_oneSetThatDoesntLoseIsEnough() {
    // Person 0 alone holds for ever; person 1 doesn't count, and both at once spend one another.
    holdingOut("hall must 1; person side 0; person side 0 weight 0; person side 1 rod;"
        + "tires: if mates > 0 then 0 else strength end; counts: weight = 1;", 0, 1, NONE);
  }

  static void promise27_asSoonAsTheWinnerCan() {
    // Both hands of side 1 at once spend side 0, one alone would take longer.
    holdingOut("hall must 1; person side 0 strength 3; person side 1 rod; person side 1 rod;"
        + "tires: if rod = 1 then strength else if others > 1 then 0 else strength - held end end;",
        -1, 1, 2);
    holdingOut("hall must 1; person side 0; person side 1; person side 1; tires: 2 - others;",
        -1, 1, 2);
  }

  static void promise27_asLateAsTheLoserCanBothFirst() {
    // Person 1 keeps its strength while both hold, person 2 falls by one; then person 1 alone.
    holdingOut("hall must 1; person side 0; person side 1; person side 1;"
        + " tires: strength - person + mates;", 1, 1, 9);
  }

  static void promise27_neitherLosesAlone() {
    due("ends()", of("hall must 1; person side 0 rod; person side 1 rod;").ends(), NONE);
    due("ends()", of("hall must 0;").ends(), NONE);
  }

  static void promise27_inTheFirstHour() {
    due("ends()", of("hall must 1; person side 0 strength 1;").ends(), 1);
    due("ends()", of("hall must 1; person side 1 strength 1;").ends(), 1);
  }

  static void promise27_asLateAsTheLoserCan() {
    // Four people hold one by one, four hours each.
    holdingOut("hall must 1; person side 0 rod;" + people(4, "person side 1")
        + "tires: if rod = 1 then strength else strength - held end;", 1, 1, 17);
    holdingOut("hall must 1; person side 1 rod;" + people(4, "person side 0")
        + "tires: if rod = 1 then strength else strength - held end;", -1, 2, 17);
  }

  private static final String[] HALLS = {"hall must 1; person side 0 strength 3; person side 1;",
      "hall must 1; person side 0 strength 1; person side 1 rod; person side 0 strength 2;",
      "hall must 1;", "hall must 2; person side 0; person side 1; person side 0; person side 1;",
      "hall must 1; person side 0 strength 2; person side 0 rod; person side 1 strength 3;"
          + "person side 0 strength 0; person side 1 strength 0; tires: strength - held;"};

  static void promise21_anotherHallBeforeDoesntMatter() {
    for (String text : HALLS) {
      asOnANewObject(text, "stands()", HandsHeld::stands);
      asOnANewObject(text, "steady()", HandsHeld::steady);
      for (int n = 0; n <= 4; n++) {
        int told = n;
        asOnANewObject(text, "rested(" + n + ")", x -> x.rested(told));
        asOnANewObject(text, "restBy(" + n + ", 0)", x -> x.restBy(told, 0));
      }
    }
  }

  static void promise25_anotherHallBeforeDoesntMatter() {
    for (String text : HALLS) {
      asOnANewObject(text, "outcome()", HandsHeld::outcome);
      asOnANewObject(text, "tells()", HandsHeld::tells);
      asOnANewObject(text, "ends()", HandsHeld::ends);
    }
  }

  static void promise25_whoCantHoldDoesntStand() {
    holdingOut("hall must 1; person side 1 strength 0; person side 0 strength 0;", 0, 0, NONE);
    holdingOut("hall must 1; person side 1 strength 0; person side 1 strength 0;"
        + " person side 0;", 1, 4, 1);
    holdingOut("hall must 1; person side 0 strength 0; person side 0 strength 0;"
        + " person side 1;", -1, 0, 1);
  }

  static void promise25_asItIsNow() {
    HandsHeld x = of("hall must 1; person side 0 strength 2; person side 1 strength 1;"
        + " tires: strength - held;");
    due("outcome()", x.outcome(), 1);
    x.soup(1);
    due("outcome()", x.outcome(), -1);
    due("ends()", x.ends(), 3);
    x.soup(0);
    due("outcome()", x.outcome(), 0);
    due("ends()", x.ends(), NONE);
    x.change(0);
    due("outcome()", x.outcome(), -1);
    due("ends()", x.ends(), 1);
    x.change(0);
    x.hour(2);
    due("outcome()", x.outcome(), 1);
    due("ends()", x.ends(), 4);
    due("tells()", x.tells(), 1);
  }

  static void promise25_ofAllStrengthsOfFive() {
    holdingOut("hall must 0;" + people(3, "person side 0") + people(2, "person side"
        + " 1"), 0, 0, NONE);
  }

  static void promise26_whoCantHoldIsNotTold() {
    holdingOut("hall must 1; person side 0 strength 0; person side 0;"
        + " person side 1 strength 0;", 1, 2, 1);
    holdingOut("hall must 1; person side 0 strength 0; person side 0 rod; person side 1 rod; tires:"
        + " strength;", 0, 2, NONE);
  }
}
