/** Boundary cases of what a text may tell (promise 3) and of its faults (promise 4). */
final class TextBounds extends Bounds {
  private static final String FIVE = "hall must 1;" + people(5, "person side 0");
  private static final String[] OPENING = {"not ", "[", "("};

  // ---- 3: what is read

  static void promise03_theShortestTextHasOneLine() {
    reads("hall must 1;", 1);
    reads("hall must 1;person side 0;", 2);
  }

  static void promise03_noneToFiveHandsMustBeHeld() {
    for (int must = 0; must <= 5; must++) {
      due("count(1)", of("hall must " + must + ";").count(1), must);
    }
    fault("hall must 6;", 3, 10);
    fault("hall must 999;", 3, 10);
  }

  static void promise03_aSideIs0Or1() {
    due("person(0, 0)", of("hall must 1; person side 0;").person(0, 0), 0);
    due("person(0, 0)", of("hall must 1; person side 1;").person(0, 0), 1);
    fault("hall must 1; person side 2;", 3, 25);
    fault("hall must 1; person side 999;", 3, 25);
  }

  static void promise03_aStrengthIs0To4() {
    for (int strength = 0; strength <= 4; strength++) {
      HandsHeld x = of("hall must 1; person side 0 strength " + strength + ";");
      due("person(0, 1)", x.person(0, 1), strength);
    }
    fault("hall must 1; person side 0 strength 5;", 3, 36);
  }

  static void promise03_withoutAStrengthItIs4() {
    due("person(0, 1)", of("hall must 1; person side 0 weight 0 rod;").person(0, 1), 4);
  }

  static void promise03_aWeightIs0To9() {
    for (int weight = 0; weight <= 9; weight++) {
      HandsHeld x = of("hall must 1; person side 0 weight " + weight + ";");
      due("person(0, 2)", x.person(0, 2), weight);
    }
    fault("hall must 1; person side 0 weight 10;", 3, 34);
  }

  static void promise03_withoutAWeightItIs1() {
    due("person(0, 2)", of("hall must 1; person side 0 strength 0 rod;").person(0, 2), 1);
  }

  static void promise03_laterFlagsStrike() {
    HandsHeld x = of("hall must 1; person side 0 strength 0 weight 9 rod strength 3 weight 0 rod;");
    due("person(0, 1)", x.person(0, 1), 3);
    due("person(0, 2)", x.person(0, 2), 0);
    due("person(0, 3)", x.person(0, 3), 1);
  }

  static void promise03_flagsAreOfTheirOwnPersonAlone() {
    HandsHeld x = of("hall must 1; person side 1 strength 1 weight 5 rod; person side 0;");
    int[][] want = {{1, 1, 5, 1, 1}, {0, 4, 1, 0, 1}};
    for (int p = 0; p < 2; p++) {
      for (int what = 0; what < 5; what++) {
        due("person(" + p + ", " + what + ")", x.person(p, what), want[p][what]);
      }
    }
  }

  static void promise03_fivePeopleAtMostNumberedFrom0() {
    StringBuilder text = new StringBuilder("hall must 1;");
    for (int p = 0; p < 5; p++) {
      text.append("person side 0 weight ").append(p + 3).append(';');
    }
    HandsHeld x = of(text.toString());
    due("count(0)", x.count(0), 5);
    for (int p = 0; p < 5; p++) {
      due("person(" + p + ", 2)", x.person(p, 2), p + 3);
    }
    fault(text + "person side 0;", 4, text.length());
  }

  static void promise03_aColdIs0To9() {
    for (int cold = 0; cold <= 9; cold++) {
      due("count(5)", of("hall must 1; cold " + cold + ";").count(5), cold);
    }
    fault("hall must 1; cold 10;", 3, 18);
  }

  static void promise03_withoutAColdItIs0() {
    HandsHeld x = of("hall must 1; cold 8;");
    tell(x, "hall must 1; person side 0;");
    due("count(5)", x.count(5), 0);
  }

  static void promise03_laterLinesOfColdStrike() {
    due("count(5)", of("hall must 1; cold 8; cold 0;").count(5), 0);
    due("count(5)", of("hall must 1; cold 0; cold 9;").count(5), 9);
  }

  static void promise03_laterLinesOfTiresStrike() {
    due("by(0, 0)", of("hall must 1; tires: 1 + 2; person side 0; tires: 2;").by(0, 0), 2);
    due("by(0, 0)", of("hall must 1; tires: 2; person side 0; tires: 1 + 2;").by(0, 0), 3);
  }

  static void promise03_laterLinesOfCountsStrike() {
    HandsHeld x = of("hall must 1; counts: 1 = 2; person side 0; counts: 1 = 1;");
    due("person(0, 4)", x.person(0, 4), 1);
    HandsHeld y = of("hall must 1; counts: 1 = 1; person side 0; counts: 1 = 1 and 1 = 2;");
    due("person(0, 4)", y.person(0, 4), 0);
  }

  static void promise03_everyLineIsCounted() {
    reads("hall must 1; cold 1; cold 1; tires: 1; tires: 1; counts: 1 = 1; counts: 1 = 1;", 7);
    reads(FIVE, 6);
  }

  static void promise03_numbersHaveOneToThreeDigits() {
    due("count(1)", of("hall must 5;").count(1), 5);
    due("count(1)", of("hall must 05;").count(1), 5);
    due("count(1)", of("hall must 005;").count(1), 5);
    fault("hall must 0005;", 1, 10);
    reads("hall must 1; tires: 999 - 99 - 9;", 2);
  }

  static void promise03_blanksAre10And32AndAreNeededBetweenWordsAlone() {
    reads("hall must 1;person side 0strength 1weight 2rod;tires:if 1=1then 2else 3end;", 3);
    reads("\n \nhall\nmust\n1\n;\n person\n\nside  0 ;\n", 2);
    fault("hallmust 1;", 2, 0);
    fault("hall must1;cold1 ;cold 2 3;", 2, 25);
    reads("hall must1;cold1 ;", 2);
  }

  static void promise03_sixWithinOneAnotherAreRead() {
    reads("hall must 1;counts:not not not not not not 1=1;", 2);
    reads("hall must 1;counts:[[[[[[1=1]]]]]];", 2);
    reads("hall must 1;counts:((((((1))))))=1;", 2);
    reads("hall must 1;tires:((((((1))))));", 2);
    reads("hall must 1;counts:not [not [not (1)=1]] and [[[[not [1=1]]]]];", 2);
    String deep = "1";
    for (int i = 0; i < 6; i++) {
      deep = "if 1=1 then " + deep + " else 2 end";
    }
    reads("hall must 1;tires:" + deep + ";", 2);
  }

  static void promise03_sixAreCountedOnlyWithinOneAnother() {
    String six = "((((((1))))))";
    reads("hall must 1;tires:" + six + "+" + six + "*" + six + "-" + six + ";", 2);
    reads("hall must 1;counts:" + six + "<" + six + " or not not not not not not 1=1;", 2);
    reads("hall must 1;tires:" + six + ";tires:" + six + ";counts:[[[[[[1=1]]]]]];", 4);
    reads("hall must 1;tires:if [[[[[1=1]]]]] then (((((1))))) else (((((2))))) end;", 2);
  }

  // ---- 4: the call

  static void promise04_withoutAFaultItIs0AndThePlaceNone() {
    HandsHeld x = of("hall must 1;");
    due("fault(0)", x.fault(0), 0);
    due("fault(1)", x.fault(1), NONE);
  }

  static void promise04_nothingElseCanBeAsked() {
    HandsHeld x = new HandsHeld();
    for (int i = 0; i < 2; i++) {
      for (int what : new int[] {-1, 2, 3, LEAST, GREATEST}) {
        due("fault(" + what + ")", x.fault(what), NONE);
      }
      tell(x, "hall must 7;");
    }
  }

  static void promise04_ofTheLatestThatWasRead() {
    HandsHeld x = new HandsHeld();
    tell(x, "hall must 1; cold 10;");
    due("fault(0)", x.fault(0), 3);
    due("fault(1)", x.fault(1), 18);
    tell(x, "?");
    due("fault(0)", x.fault(0), 1);
    due("fault(1)", x.fault(1), 0);
    tell(x, "hall must 1;");
    due("fault(0)", x.fault(0), 0);
    due("fault(1)", x.fault(1), NONE);
  }

  static void promise04_oneThatWasRefusedIsNotRead() {
    HandsHeld x = new HandsHeld();
    tell(x, "hall must 1; cold 10;");
    due("hall(1)", x.hall(1), -3);
    due("hall(-1)", x.hall(-1), -3);
    due("fault(0)", x.fault(0), 3);
    due("fault(1)", x.fault(1), 18);
    tell(x, "hall must 1;");
    due("hall(1)", x.hall(1), -3);
    due("fault(0)", x.fault(0), 0);
  }

  static void promise04_restoringChangesNoFault() {
    HandsHeld x = of("hall must 1;");
    x.image(0);
    tell(x, "hall must 6;");
    x.restore(0);
    due("fault(0)", x.fault(0), 3);
    due("fault(1)", x.fault(1), 10);
  }

  // ---- 4: kind 1, no token begins so

  static void promise04_fourDigitsAndMoreAreNoTokenAtTheirFirst() {
    fault("hall must 1000;", 1, 10);
    fault("hall must 0000;", 1, 10);
    fault("hall must 12345;", 1, 10);
    fault("hall must 1;tires:1+99999999999999999999;", 1, 20);
    fault("hall must 1;tires:1000", 1, 18);
    reads("hall must 1;tires:1+999;", 2);
  }

  static void promise04_everyByteThatBeginsNoToken() {
    String signs = ";:+-*()[]=<>";
    for (int c = 0; c < 256; c++) {
      String text = "hall must 1;" + (char) c;
      boolean small = c >= 'a' && c <= 'z';
      boolean digit = c >= '0' && c <= '9';
      if (c == 10 || c == 32) {
        reads(text, 1);
      } else {
        fault(text, small || digit || signs.indexOf(c) >= 0 ? 2 : 1, 12);
      }
    }
  }

  static void promise04_everyByteBehindAWordAndANumber() {
    String signs = ";:+-*()[]=<>";
    for (int c = 0; c < 256; c++) {
      boolean small = c >= 'a' && c <= 'z';
      boolean digit = c >= '0' && c <= '9';
      boolean sign = signs.indexOf(c) >= 0;
      boolean blank = c == 10 || c == 32;
      if (small) {
        fault("hall must" + (char) c, 2, 5);
      } else if (digit) {
        fault("hall must" + (char) c, c > '5' ? 3 : 2, c > '5' ? 9 : 10);
        fault("hall must 00" + (char) c + (char) c, 1, 10);
      } else if (blank) {
        fault("hall must" + (char) c, 2, 10);
      } else {
        fault("hall must" + (char) c, sign ? 2 : 1, 9);
        if (c != ';') {
          fault("hall must 1" + (char) c, sign ? 2 : 1, 11);
        }
      }
    }
  }

  // ---- 4: kind 2, it can't stand there

  static void promise04_atTheEndThePlaceIsTheTextsLength() {
    fault("", 2, 0);
    fault(" ", 2, 1);
    fault("\n\n\n", 2, 3);
    String[] parts = {"hall", "must", "1", ";person", "side", "0", "strength", "2", "weight", "3",
        "rod", ";cold", "4", ";tires", ":", "1", "+", "(", "2", "*", "if", "1", "<", "2", "and",
        "not", "[", "3", "=", "3", "]", "then", "1", "else", "2", "end", ")", ";counts", ":", "1",
        "=", "1", "or", "1", ">", "1"};
    StringBuilder text = new StringBuilder();
    for (String part : parts) {
      text.append(part);
      fault(text.toString(), 2, text.length());
      text.append("  ");
      fault(text.toString(), 2, text.length());
    }
    reads(text + ";", 5);
  }

  static void promise04_theEndIsWhereTheTextIsCut() {
    HandsHeld x = new HandsHeld();
    feed(x, "hall must 1;");
    due("hall(11)", x.hall(11), -32);
    due("fault(1)", x.fault(1), 11);
  }

  static void promise04_hallMustBeToldFirst() {
    fault("person side 0;", 2, 0);
    fault("  cold 1;hall must 1;", 2, 2);
    fault("must 1;", 2, 0);
    fault(";hall must 1;", 2, 0);
    fault("1;", 2, 0);
  }

  static void promise04_hallMustBeToldOnce() {
    fault("hall must 1;hall must 1;", 2, 12);
    fault("hall must 1; cold 1; hall must 1;", 2, 21);
    fault("hall must 1;hall", 2, 12);
  }

  static void promise04_eachOfHallsTokensMustStandThere() {
    fault("hall 1;", 2, 5);
    fault("hall must;", 2, 9);
    fault("hall must must;", 2, 10);
    fault("hall must 1 2;", 2, 12);
    fault("hall must 1 cold 1;", 2, 12);
    fault("hall must - 1;", 2, 10);
  }

  static void promise04_heldMatesAndOthersCantStandInCounts() {
    for (String word : new String[] {"held", "mates", "others"}) {
      fault("hall must 1;counts:" + word + "=1;", 2, 19);
      fault("hall must 1;counts:1=" + word + ";", 2, 21);
      fault("hall must 1;counts:if 1=1 then " + word + " else 1 end=1;", 2, 31);
      fault("hall must 1;counts:(" + word + ")=1;", 2, 20);
      reads("hall must 1;tires:" + word + ";", 2);
      reads("hall must 1;tires:if " + word + "=1 then 1 else 2 end;", 2);
      fault("hall must 1;tires:" + word + ";counts:" + word + "=1;", 2, 26 + word.length());
      reads("hall must 1;counts:1=1;tires:" + word + ";", 3);
    }
  }

  static void promise04_theOtherWordsStandInBothLaws() {
    for (String word : new String[] {"person", "side", "strength", "weight", "rod", "cold"}) {
      reads("hall must 1;counts:" + word + "=1;", 2);
      reads("hall must 1;tires:" + word + ";", 2);
    }
  }

  static void promise04_noOtherWordStandsInALaw() {
    for (String word : new String[] {"hall", "must", "tires", "counts", "then", "else", "end",
        "and", "or", "glove", "a", "persons", "col", "not"}) {
      fault("hall must 1;tires:" + word + ";", 2, 18);
      fault("hall must 1;tires:1+" + word + ";", 2, 20);
      fault("hall must 1;tires:1*" + word + ";", 2, 20);
      fault("hall must 1;counts:1=" + word + ";", 2, 21);
    }
    for (String word : new String[] {"hall", "must", "tires", "counts", "then", "else", "end",
        "and", "or", "glove", "nots", "no", "x"}) {
      fault("hall must 1;counts:" + word + " 1=1;", 2, 19);
      fault("hall must 1;counts:1=1 and " + word + " 1=1;", 2, 27);
      fault("hall must 1;tires:if " + word + " 1=1 then 1 else 2 end;", 2, 21);
    }
  }

  static void promise04_noOtherWordBeginsALine() {
    for (String word : new String[] {"hall", "must", "side", "strength", "weight", "rod", "held",
        "mates", "others", "if", "not", "persons", "cole", "x"}) {
      fault("hall must 1;" + word, 2, 12);
      fault("hall must 1;cold 1;" + word + ";", 2, 19);
    }
    fault("hall must 1;;", 2, 12);
    fault("hall must 1;1;", 2, 12);
  }

  static void promise04_eachOfAPersonsTokensMustStandThere() {
    fault("hall must 1;person;", 2, 18);
    fault("hall must 1;person 0;", 2, 19);
    fault("hall must 1;person side;", 2, 23);
    fault("hall must 1;person side side;", 2, 24);
    fault("hall must 1;person side 0 side 1;", 2, 26);
    fault("hall must 1;person side 0 strength;", 2, 34);
    fault("hall must 1;person side 0 weight rod;", 2, 33);
    fault("hall must 1;person side 0 rod 1;", 2, 30);
    fault("hall must 1;person side 0 cold 1;", 2, 26);
    fault("hall must 1;person side 0 person side 0;", 2, 26);
  }

  static void promise04_eachOfALawsTokensMustStandThere() {
    fault("hall must 1;tires 1;", 2, 18);
    fault("hall must 1;tires:;", 2, 18);
    fault("hall must 1;tires:1 1;", 2, 20);
    fault("hall must 1;tires:+1;", 2, 18);
    fault("hall must 1;tires:1+-1;", 2, 20);
    fault("hall must 1;tires:1*;", 2, 20);
    fault("hall must 1;tires:();", 2, 19);
    fault("hall must 1;tires:(1];", 2, 20);
    fault("hall must 1;tires:1);", 2, 19);
    fault("hall must 1;tires:1=1;", 2, 19);
    fault("hall must 1;tires:[1=1];", 2, 18);
    fault("hall must 1;tires:if 1 then 1 else 1 end;", 2, 23);
    fault("hall must 1;tires:if 1=1 else 1 end;", 2, 25);
    fault("hall must 1;tires:if 1=1 then 1 end;", 2, 32);
    fault("hall must 1;tires:if 1=1 then 1 else 1;", 2, 38);
    fault("hall must 1;tires:if (1=1) then 1 else 1 end;", 2, 23);
    fault("hall must 1;counts 1=1;", 2, 19);
    fault("hall must 1;counts:1;", 2, 20);
    fault("hall must 1;counts:1+1;", 2, 22);
    fault("hall must 1;counts:1=1=1;", 2, 22);
    fault("hall must 1;counts:1<>1;", 2, 21);
    fault("hall must 1;counts:[1=1);", 2, 23);
    fault("hall must 1;counts:1=1];", 2, 22);
    fault("hall must 1;counts:1=1 and;", 2, 26);
    fault("hall must 1;counts:and 1=1;", 2, 19);
    fault("hall must 1;counts:1=1 or or 1=1;", 2, 26);
    fault("hall must 1;counts:1=1 not 1=1;", 2, 23);
    fault("hall must 1;counts:1=not 1;", 2, 21);
    fault("hall must 1;counts:1=[1=1];", 2, 21);
    fault("hall must 1;counts:[1=1]=1;", 2, 24);
  }

  // ---- 4: kind 3, a number out of its bounds

  static void promise04_aNumberOutOfItsBounds() {
    fault("hall must 6", 3, 10);
    fault("hall must 1;person side 2", 3, 24);
    fault("hall must 1;person side 0 strength 5", 3, 35);
    fault("hall must 1;person side 0 weight 10", 3, 33);
    fault("hall must 1;cold 10", 3, 17);
  }

  static void promise04_aLaterNumberThatStrikesMakesNoFaultGood() {
    fault("hall must 1;person side 0 strength 5 strength 1;", 3, 35);
    fault("hall must 1;cold 10;cold 1;", 3, 17);
  }

  static void promise04_inALawEveryNumberCanStand() {
    reads("hall must 1;tires:0;tires:10;tires:999;counts:000<999;", 5);
  }

  // ---- 4: kind 4, too many

  static void promise04_theFirstTokenOfASixthPerson() {
    fault(FIVE + "person side 0;", 4, 82);
    fault(FIVE + "person", 4, 82);
    fault(FIVE + "  person 9 !", 4, 84);
    fault(FIVE + "cold 1;person side 0;", 4, 89);
    reads(FIVE + "cold 1;", 7);
  }

  static void promise04_aSeventhOfEachKind() {
    fault("hall must 1;counts:not not not not not not not 1=1;", 4, 43);
    fault("hall must 1;counts:[[[[[[[1=1]]]]]]];", 4, 25);
    fault("hall must 1;counts:(((((((1)))))))=1;", 4, 25);
    fault("hall must 1;tires:(((((((1)))))));", 4, 24);
    fault("hall must 1;tires:((((((if 1=1 then 1 else 1 end))))));", 4, 24);
  }

  static void promise04_aSeventhWithinSixOfAnyKind() {
    for (String one : OPENING) {
      for (String other : OPENING) {
        String six = one.equals("(") ? other.equals("(") ? "((((((" : "[[[[[["
            : (one + one + one + one + one + one);
        fault("hall must 1;counts:" + six + other, 4, 19 + six.length());
        fault("hall must 1;counts:" + six + "if", 4, 19 + six.length());
      }
    }
    fault("hall must 1;counts:not [not [(if (", 4, 33);
    fault("hall must 1;counts:not [not [(if not", 4, 33);
    fault("hall must 1;counts:not [not [(if [", 4, 33);
    fault("hall must 1;counts:not [not [(if if", 4, 33);
  }

  static void promise04_aSeventhInEachPartOfAnIf() {
    fault("hall must 1;tires:(((((if (", 4, 26);
    fault("hall must 1;tires:(((((if 1=1 then (", 4, 35);
    fault("hall must 1;tires:(((((if 1=1 then 1 else (", 4, 42);
    fault("hall must 1;tires:(((((if 1=1 then 1 else 1 end)))))+(((((((1", 4, 59);
    fault("hall must 1;tires:(((((if 1=(", 4, 28);
  }

  static void promise04_aClosedOneIsWithinNoMore() {
    fault("hall must 1;tires:((((((1)+(1))))))+(((((((", 4, 42);
    reads("hall must 1;tires:((((((1)+(1)*(1))))))+((((((1))))));", 2);
    reads("hall must 1;counts:not not not not not not 1=1 and not 1=1;", 2);
    reads("hall must 1;counts:not not not not not [1=1] or [[[[[[1=1]]]]]];", 2);
  }

  // ---- 4: which of several

  static void promise04_theFirstAlongTheText() {
    fault("hall must 1 cold 10; !", 2, 12);
    fault("hall must 6; !", 3, 10);
    fault("hall ! must 6;", 1, 5);
    fault("hall must 1;cold 10;person side 2;", 3, 17);
    fault("hall must 1;cold 1000 cold;", 1, 17);
    fault("hall must 1;tires:((((((( 1000", 4, 24);
    fault("hall must 1;tires:((((((1000", 1, 24);
    fault(FIVE + "person 1000;", 4, 82);
    fault(FIVE + "cold 10;person side 0;", 3, 87);
  }

  static void promise04_ofOneTokenNoTokenIsLeast() {
    fault("hall must 1;1000;", 1, 12);
    fault("hall 1000;", 1, 5);
    fault("hall must 1;cold 9999;", 1, 17);
    fault("hall must 1;tires:((((((!", 1, 24);
    fault("hall must 1;tires:1 1000", 1, 20);
  }

  static void promise04_ofOneTokenItCantStandThereIsLessThanItsBounds() {
    fault("99 must 1;", 2, 0);
    fault("hall 99;", 2, 5);
    fault("hall must 1 99;", 2, 12);
    fault("hall must 1;person 99;", 2, 19);
    fault("hall must 1;cold 9 99;", 2, 19);
  }

  static void promise04_ofOneTokenItCantStandThereIsLessThanTooMany() {
    fault(FIVE + "cold person side 0;", 2, 87);
    fault(FIVE + "cold 1 person side 0;", 2, 89);
    fault(FIVE.substring(0, 81) + " person side 0;", 2, 82);
    fault("hall must 1;tires:((((((1 (", 2, 26);
    fault("hall must 1;tires:(((((([", 2, 24);
    fault("hall must 1;tires:((((((not", 2, 24);
    fault("hall must 1;counts:[[[[[[1=not", 2, 27);
    fault("hall must 1;counts:[[[[[[1=[", 2, 27);
    fault("hall must 1;counts:[[[[[[1 if", 2, 27);
  }

  static void promise03_ofManyLawsTheLastStrikes() {
    HandsHeld x = of("hall must 1;person side 0;" + "tires:1;".repeat(108) + "tires:2;");
    due("by(0, 0)", x.by(0, 0), 2);
    HandsHeld y = of("hall must 1;person side 0;" + "counts:1=1;".repeat(78) + "counts:1=2;");
    due("person(0, 4)", y.person(0, 4), 0);
  }
}
