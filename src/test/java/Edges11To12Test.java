/** The edges of promises 11 and 12: the tape as a way, its faults, and what a way does with each term. */
public final class Edges11To12Test extends Bench {
    private static final String[] TERMS = {"east", "north", "scale", "turn", "light", "bend"};
    private static final String[] WORDS = {"plate", "island", "kind", "heat", "star", "bright", "far", "x", "y", "dx",
        "dy", "week", "hand"};
    /** Twenty facts of two values each: sixty values and facts. */
    private static final String SIXTY = "x=1" + " or x=1".repeat(19);

    public static void main(String[] args) throws IllegalAccessException {
        runAll(Edges11To12Test.class);
    }

    // ---- 11: the call

    static void promise11_thereAreTenWaysAndNoMore() {
        BlackSun b = new BlackSun();
        for (int i = 0; i < 10; i++) {
            due(way(b, "fit light"), i);
        }
        due(way(b, "fit light"), -1);
        due(b.count(4), 10);
    }

    static void promise11_theEleventhLeavesTheTapeAsItIs() {
        BlackSun b = new BlackSun();
        b.mark(0);
        for (int i = 0; i < 10; i++) {
            way(b, "fit light");
        }
        tape(b, "fit bend");
        due(b.way(), -1);
        due(b.count(7), 8);
        b.back(0);
        due(b.way(), 0);
        due(b.ways(0, BEND), 1);
    }

    static void promise11_theEleventhIsNoneEvenWithAFault() {
        BlackSun b = new BlackSun();
        for (int i = 0; i < 10; i++) {
            way(b, "fit light");
        }
        due(way(b, "nonsense"), -1);
        due(b.count(7), 8);
    }

    static void promise11_theTapeIsEmptyAfterAWay() {
        BlackSun b = new BlackSun();
        due(way(b, "fit light"), 0);
        due(b.count(7), 0);
        due(b.way(), fault(0, 0));
    }

    static void promise11_theTapeIsEmptyAfterAFault() {
        BlackSun b = new BlackSun();
        due(way(b, "fit xxxxx"), fault(4, 0));
        due(b.count(7), 0);
    }

    static void promise11_aFaultMakesNoWay() {
        BlackSun b = new BlackSun();
        way(b, "fit east;fit xxxxx");
        due(b.count(4), 0);
        due(b.ways(0, EAST), -1);
        due(way(b, "fit light"), 0);
        due(b.ways(0, EAST), 0);
    }

    static void promise11_anEmptyTapeIsAFaultAtItsEnd() {
        due(new BlackSun().way(), -3);
    }

    static void promise11_atMost400Bytes() {
        fine("fit light" + " ".repeat(391));
        fine(" ".repeat(391) + "fit light");
        faulty(" ".repeat(400), 400, 0);
        faulty(" ".repeat(399) + "f", 399, 0);
        fine(" ".repeat(394) + "hand 1");
        faulty(" ".repeat(389) + "leave if x<", 400, 0);
        faulty(" ".repeat(397) + "fit", 400, 0);
    }

    // ---- 11: clauses

    static void promise11_twelveClausesAreFine() {
        fine("leave if x=1" + ";leave if x=1".repeat(11));
    }

    static void promise11_aThirteenthClauseIsAFaultAtItsFirstByte() {
        faulty("leave if x=1;".repeat(12) + "fit light", 156, 4);
        faulty("leave if x=1;".repeat(12) + "leave if x=1", 156, 4);
    }

    static void promise11_theFirstByteOfAThirteenthClauseIsNoBlank() {
        faulty("leave if x=1;".repeat(12) + "   hand 1", 159, 4);
    }

    static void promise11_aThirteenthClauseThatIsNoneIsTheLesserFault() {
        faulty("leave if x=1;".repeat(12) + "hands 1", 156, 0);
        faulty("leave if x=1;".repeat(12) + "5", 156, 0);
    }

    static void promise11_nothingBehindTheTwelfthSemicolonIsTheEnd() {
        faulty("leave if x=1;".repeat(12), 156, 0);
        faulty("leave if x=1;".repeat(12) + "  ", 158, 0);
    }

    static void promise11_aSecondHandThatIsTheThirteenthClauseIsTheLesserFault() {
        faulty("hand 1;" + "leave if x=1;".repeat(11) + "hand 1", 150, 4);
    }

    static void promise11_anEmptyClauseIsAFault() {
        faulty(";fit light", 0, 0);
        faulty("fit light;;fit bend", 10, 0);
        faulty("fit light; ; fit bend", 11, 0);
    }

    static void promise11_behindTheLastSemicolonAClauseMustCome() {
        faulty("fit light;", 10, 0);
        faulty("fit light; ", 11, 0);
    }

    static void promise11_betweenClausesASemicolonMustStand() {
        faulty("fit light fit bend", 10, 0);
        faulty("fit light,fit bend", 9, 0);
        faulty("hand 1 2", 7, 0);
        faulty("hold light 1 1", 13, 0);
        faulty("check light 1", 12, 0);
    }

    static void promise11_eachKindOfClause() {
        fine("fit light");
        fine("hold light 5");
        fine("check light");
        fine("leave if x=1");
        fine("hand 3");
    }

    static void promise11_anotherWordIsNoClause() {
        for (String word : new String[] {"east", "if", "or", "leaves", "fi", "holds", "x", "hands", "han"}) {
            faulty(word + " light", 0, 0);
        }
    }

    // ---- 11: terms

    static void promise11_eachTermCanBeFittedHeldAndChecked() {
        for (String term : TERMS) {
            fine("fit " + term);
            fine("hold " + term + " 7");
            fine("check " + term);
        }
    }

    static void promise11_anotherWordIsNoTerm() {
        faulty("fit plate", 4, 0);
        faulty("hold lights 5", 5, 0);
        faulty("check ligh", 6, 0);
        faulty("fit 5", 4, 0);
        faulty("fit ;", 4, 0);
    }

    static void promise11_aTermNamedBeforeIsAFaultAtTheTerm() {
        String[] clauses = {"fit light", "hold light 1", "check light"};
        int[] termAt = {4, 5, 6};
        for (String first : clauses) {
            for (int i = 0; i < 3; i++) {
                faulty(first + ";" + clauses[i], first.length() + 1 + termAt[i], 5);
            }
        }
    }

    static void promise11_threeTermsMayBeFitted() {
        fine("fit east;fit north;fit scale");
        fine("fit turn;fit light;fit bend");
    }

    static void promise11_aFourthThatIsFittedIsAFaultAtTheTerm() {
        faulty("fit east;fit north;fit scale;fit turn", 33, 5);
        faulty("fit east;hold bend 1;fit north;fit scale;check light;fit turn", 57, 5);
    }

    static void promise11_threeFittedAndThreeMoreHeldOrOfCheckAreFine() {
        fine("fit east;fit north;fit scale;hold turn 1;check light;hold bend -2");
        fine("check turn;check light;check bend;fit east;fit north;fit scale");
    }

    static void promise11_aFourthThatIsNoTermIsTheLesserFault() {
        faulty("fit east;fit north;fit scale;fit turns", 33, 0);
    }

    // ---- 11: numbers

    static void promise11_heldNumbersGoTo99999() {
        fine("hold light 0");
        fine("hold light 99999");
        faulty("hold light 100000", 11, 1);
        faulty("hold light 999999999999999999999999", 11, 1);
    }

    static void promise11_heldNumbersGoDownToMinus99999() {
        fine("hold light -0");
        fine("hold light -99999");
        faulty("hold light -100000", 12, 1);
    }

    static void promise11_aNumberOfMoreDigitsIsAFaultWhateverItIs() {
        fine("hold light 00001");
        faulty("hold light 000001", 11, 1);
        faulty("hand 000001", 5, 1);
        faulty("leave if x=000001", 11, 1);
    }

    static void promise11_theMinusOfAHeldNumberStandsAheadOfItAtOnce() {
        fine("hold light   -5");
        fine("hold light-5");
        faulty("hold light - 5", 12, 0);
        faulty("hold light --5", 12, 0);
        faulty("hold light -", 12, 0);
        faulty("hold light -;", 12, 0);
        faulty("hold light -x", 12, 0);
    }

    static void promise11_aHeldNumberHasNoPlus() {
        faulty("hold light +5", 11, 0);
    }

    static void promise11_aHeldTermNeedsANumber() {
        faulty("hold light", 10, 0);
        faulty("hold light  ", 12, 0);
        faulty("hold light;", 10, 0);
        faulty("hold light x", 11, 0);
    }

    static void promise11_handsAre0To7() {
        for (int hand = 0; hand < 8; hand++) {
            fine("hand " + hand);
        }
        faulty("hand 8", 5, 1);
        faulty("hand 10", 5, 1);
        faulty("hand 99999", 5, 1);
        faulty("hand 123456", 5, 1);
    }

    static void promise11_aHandHasNoMinus() {
        faulty("hand -1", 5, 0);
        faulty("hand -0", 5, 0);
    }

    static void promise11_aHandNeedsANumber() {
        faulty("hand", 4, 0);
        faulty("hand ", 5, 0);
        faulty("hand x", 5, 0);
    }

    static void promise11_aSecondHandIsAFaultAtIt() {
        faulty("hand 1;hand 2", 7, 5);
        faulty("hand 1;  hand 1", 9, 5);
        faulty("hand 0;fit light;hand 0", 17, 5);
    }

    static void promise11_theFirstFaultOfASecondHandIsThatItIsThere() {
        faulty("hand 1;hand", 7, 5);
        faulty("hand 1;hand 9", 7, 5);
    }

    static void promise11_aNumberGoesAsFarAsDigitsGoOn() {
        fine("leave if 12+3=15or 1=1");
        faulty("hand 1 2", 7, 0);
        faulty("leave if x=12 34", 14, 0);
        faulty("hand 1x", 6, 0);
    }

    static void promise11_valuesHaveOneToFiveDigits() {
        fine("leave if x=0");
        fine("leave if x=99999");
        faulty("leave if x=100000", 11, 1);
        faulty("leave if 123456=x", 9, 1);
    }

    static void promise11_aValueHasNoMinus() {
        faulty("leave if x=-1", 11, 0);
        faulty("leave if -1=x", 9, 0);
        faulty("leave if x+-1=1", 11, 0);
    }

    // ---- 11: words and blanks

    static void promise11_aWordGoesAsFarAsSmallLettersGoOn() {
        faulty("fitlight", 0, 0);
        faulty("fit lightfit", 4, 0);
        faulty("leave ifx=1", 6, 0);
        faulty("leave if notx=1", 9, 0);
        faulty("leave if x=1 andy=1", 13, 0);
        faulty("leave if x=1 ory=1", 13, 0);
        faulty("leave if xx=1", 9, 0);
        faulty("leave if fit=1", 9, 0);
    }

    static void promise11_theSmallLettersAreAToZ() {
        faulty("fita light", 0, 0);
        faulty("fitz light", 0, 0);
        faulty("fit lighta", 4, 0);
        faulty("fit lightz", 4, 0);
        // The signs on both sides of them are no letters.
        faulty("fit`light", 3, 0);
        faulty("fit{light", 3, 0);
    }

    static void promise11_digitsAre0To9() {
        fine("hold light 10239");
        // The signs on both sides of them are no digits.
        faulty("hold light 1/", 12, 0);
        faulty("hold light 1:", 12, 0);
    }

    static void promise11_aWordEndsBeforeAnyOtherSign() {
        fine("hand0");
        fine("hold light5");
        fine("leave if[x=1]or[y=1]and not[y=2]");
        fine("leave if x=1or y=1and y=2");
        faulty("leave if x=1orY=1", 14, 0);
    }

    static void promise11_lettersAreSmall() {
        faulty("Fit light", 0, 0);
        faulty("fiT light", 0, 0);
        faulty("fit Light", 4, 0);
        faulty("fit lighT", 4, 0);
        faulty("leave if X=1", 9, 0);
    }

    static void promise11_blanksStandBetweenAsOneLikes() {
        fine("  fit   light  ;   leave   if  x  +  1  <=  2  and  [  not  y  =  1  ]   ");
        fine("fit light;leave if x+1<=2and[not y=1]");
    }

    static void promise11_onlyByte32IsABlank() {
        for (char sign : new char[] {0, 9, 10, 13, 31, 33, 127, 160, 255}) {
            faulty("fit" + sign + "light", 3, 0);
            faulty("fit light" + sign, 9, 0);
            faulty(sign + "fit light", 0, 0);
        }
    }

    static void promise11_aSignOfTwoBytesHasNoBlankInIt() {
        fine("leave if x<=1;leave if x>=1");
        faulty("leave if x< =1", 12, 0);
        faulty("leave if x> =1", 12, 0);
    }

    static void promise11_theSignsAreFive() {
        for (String sign : new String[] {"<", "<=", "=", ">=", ">"}) {
            fine("leave if x" + sign + "1");
        }
        faulty("leave if x==1", 11, 0);
        faulty("leave if x=<1", 11, 0);
        faulty("leave if x=>1", 11, 0);
        faulty("leave if x<>1", 11, 0);
        faulty("leave if x<==1", 12, 0);
        faulty("leave if x!=1", 10, 0);
        faulty("leave if x:1", 10, 0);
    }

    // ---- 11: tests

    static void promise11_aLeaveNeedsIf() {
        faulty("leave x=1", 6, 0);
        faulty("leave", 5, 0);
        faulty("leave iff x=1", 6, 0);
        faulty("leave if", 8, 0);
        faulty("leave if;", 8, 0);
    }

    static void promise11_eachWordIsAValue() {
        for (String word : WORDS) {
            fine("leave if " + word + "=1");
            fine("leave if 1=" + word);
        }
    }

    static void promise11_anotherWordIsNoValue() {
        for (String word : new String[] {"z", "light", "and", "or", "if", "plates", "r", "dz", "known"}) {
            faulty("leave if " + word + "=1", 9, 0);
            faulty("leave if 1=" + word, 11, 0);
        }
    }

    static void promise11_notIsNoValue() {
        faulty("leave if 1=not", 11, 0);
        faulty("leave if not=1", 12, 0);
        faulty("leave if 1+not x=1", 11, 0);
    }

    static void promise11_aFactNeedsASignAndTwoSums() {
        faulty("leave if x", 10, 0);
        faulty("leave if x=", 11, 0);
        faulty("leave if =1", 9, 0);
        faulty("leave if x and y", 11, 0);
        faulty("leave if x=1 and y", 18, 0);
        faulty("leave if x;", 10, 0);
    }

    static void promise11_aFactHasOneSign() {
        faulty("leave if x=1=1", 12, 0);
        faulty("leave if 1<x<3", 12, 0);
    }

    static void promise11_aSumGoesOnBehindItsSign() {
        fine("leave if x+1-y=1-x+2");
        faulty("leave if x+=1", 11, 0);
        faulty("leave if x=1+", 13, 0);
        faulty("leave if x=1-;", 13, 0);
        faulty("leave if x++1=1", 11, 0);
    }

    static void promise11_orAndAndNeedFactsOnBothSides() {
        faulty("leave if or x=1", 9, 0);
        faulty("leave if and x=1", 9, 0);
        faulty("leave if x=1 or", 15, 0);
        faulty("leave if x=1 and", 16, 0);
        faulty("leave if x=1 or and y=1", 16, 0);
        faulty("leave if x=1 y=1", 13, 0);
    }

    static void promise11_bracketsCloseAndHoldATest() {
        fine("leave if [x=1 or y=1]and[x=1]");
        faulty("leave if [x=1", 13, 0);
        faulty("leave if [x=1;", 13, 0);
        faulty("leave if [[x=1]", 15, 0);
        faulty("leave if []", 10, 0);
        faulty("leave if x=1]", 12, 0);
        faulty("leave if [x=1]]", 14, 0);
        faulty("leave if ]", 9, 0);
        faulty("leave if (x=1)", 9, 0);
    }

    static void promise11_bracketsHoldNoSum() {
        faulty("leave if [x]=1", 11, 0);
        faulty("leave if [x+1]=1", 13, 0);
        faulty("leave if 1=[x]", 11, 0);
        faulty("leave if x+[y]=1", 11, 0);
        faulty("leave if [x=1]=1", 14, 0);
        faulty("leave if [x=1]+1=1", 14, 0);
    }

    // ---- 11: depth

    static void promise11_bracketsLieTenDeep() {
        fine("leave if " + "[".repeat(10) + "x=1" + "]".repeat(10));
    }

    static void promise11_anEleventhBracketIsTooDeepAtIt() {
        faulty("leave if " + "[".repeat(11) + "x=1" + "]".repeat(11), 19, 2);
        faulty("leave if " + "[ ".repeat(11) + "x=1", 29, 2);
    }

    static void promise11_notsLieTenDeep() {
        fine("leave if " + "not ".repeat(10) + "x=1");
    }

    static void promise11_anEleventhNotIsTooDeepAtTheWord() {
        faulty("leave if " + "not ".repeat(11) + "x=1", 49, 2);
    }

    static void promise11_bracketsAndNotsLieWithinOneAnother() {
        fine("leave if " + "not [".repeat(5) + "x=1" + "]".repeat(5));
        faulty("leave if " + "not [".repeat(5) + "[x=1", 34, 2);
        faulty("leave if " + "not [".repeat(5) + "not x=1", 34, 2);
        faulty("leave if " + "[not ".repeat(5) + "[x=1", 34, 2);
    }

    static void promise11_aBracketThatIsClosedIsDeepNoMore() {
        fine("leave if [x=1]" + " or [x=1]".repeat(15));
        fine("leave if " + "[".repeat(9) + "[x=1]and[x=1]" + "]".repeat(9) + "or" + "[".repeat(10) + "x=1" + "]".repeat(10));
    }

    static void promise11_aNotIsDeepNoMoreBehindItsFact() {
        fine("leave if not x=1" + " or not x=1".repeat(15));
        fine("leave if " + "not ".repeat(10) + "x=1 and " + "not ".repeat(10) + "x=1 or " + "not ".repeat(10) + "x=1");
        fine("leave if not [" + "not ".repeat(8) + "x=1 and " + "[".repeat(8) + "x=1" + "]".repeat(8) + "]");
    }

    static void promise11_depthBeginsAnewInEachLeave() {
        String deep = "leave if " + "[".repeat(10) + "x=1" + "]".repeat(10);
        fine(deep + ";" + deep);
        String nots = "leave if " + "not ".repeat(10) + "x=1";
        fine(nots + ";" + nots);
    }

    static void promise11_aSignThatCannotStandIsNotTooDeep() {
        faulty("leave if " + "[".repeat(10) + "x+[", 21, 0);
        faulty("leave if " + "[".repeat(10) + "nots", 19, 0);
    }

    // ---- 11: values and facts

    static void promise11_sixtyValuesAndFactsAreFine() {
        fine("leave if " + SIXTY);
        fine("leave if 1" + "+1".repeat(57) + "=1");
    }

    static void promise11_oneValueTooManyIsAFaultAtItsFirstByte() {
        faulty("leave if " + SIXTY + " or y=1", 149, 3);
        faulty("leave if " + SIXTY + "+1", 146, 3);
        faulty("leave if " + SIXTY + " or   bright=1", 151, 3);
    }

    static void promise11_oneFactTooManyIsAFaultAtItsSign() {
        String sum = "1" + "+1".repeat(59);
        faulty("leave if " + sum + "=1", 128, 3);
        faulty("leave if " + sum + "  <=1", 130, 3);
        faulty("leave if 1" + "+1".repeat(56) + "=1 or 1=1", 129, 3);
    }

    static void promise11_ofThemTogether() {
        // Fifty-nine, then a value, then its fact.
        faulty("leave if 1" + "+1".repeat(56) + "=1 or x<1", 129, 3);
        // Sixty, then a value.
        faulty("leave if 1" + "+1".repeat(57) + "=1 or x<1", 130, 3);
    }

    static void promise11_ofAllLeavesTogether() {
        fine("leave if x=1" + ";leave if x=1".repeat(9) + ";leave if x=1" + " or x=1".repeat(9));
        faulty("leave if " + SIXTY + ";leave if y=1", 155, 3);
    }

    static void promise11_bracketsNotsAndOtherNumbersAreNotCounted() {
        fine("hand 1;hold light 5;fit bend;leave if " + "not [".repeat(5) + SIXTY + "]".repeat(5));
    }

    static void promise11_aValueTooManyThatIsNoneIsTheLesserFault() {
        faulty("leave if " + SIXTY + " or z=1", 149, 0);
        faulty("leave if " + SIXTY + " or 123456=1", 149, 1);
    }

    static void promise11_aBracketTooDeepBehindSixtyIsStillTooDeep() {
        faulty("leave if " + SIXTY + " or " + "[".repeat(11), 159, 2);
    }

    static void promise11_aSignThatIsNoneBehindSixtyIsTheLesserFault() {
        faulty("leave if 1" + "+1".repeat(59) + " 1", 129, 0);
        faulty("leave if 1" + "+1".repeat(59), 128, 0);
    }

    static void promise11_eachWayCountsAnew() {
        BlackSun b = new BlackSun();
        due(way(b, "leave if " + SIXTY), 0);
        due(way(b, "leave if " + SIXTY), 1);
        due(way(b, "leave if " + SIXTY + " or y=1"), fault(149, 3));
        due(way(b, "leave if " + SIXTY), 2);
    }

    static void promise11_aFaultLeavesNothingBehind() {
        BlackSun b = new BlackSun();
        way(b, "leave if " + "[not ".repeat(5) + "x=");
        due(way(b, "leave if " + "[".repeat(10) + "x=1" + "]".repeat(10)), 0);
        way(b, "hand 1;fit east;fit north;fit scale;xxx");
        due(way(b, "hand 2;fit north;fit scale;fit turn"), 1);
        due(b.ways(1, EAST), 0);
        way(b, "leave if [x=1 or x=1;");
        due(way(b, "leave if x=1]"), fault(12, 0));
    }

    // ---- 11: the first fault

    static void promise11_theFirstFaultAlongTheTextIsTold() {
        faulty("fit xxx;hand 9", 4, 0);
        faulty("hand 9;fit xxx", 5, 1);
        faulty("fit light;fit light;hand 9", 14, 5);
        faulty("leave if x=123456 and " + "[".repeat(11), 11, 1);
    }

    static void promise11_theEndIsBehindTheLastByte() {
        faulty("fit", 3, 0);
        faulty("fit   ", 6, 0);
        faulty("hold light -", 12, 0);
        faulty("leave if x=1 or ", 16, 0);
    }

    // ---- 12: ways

    static void promise12_notNamedFittedHeldAndOfCheck() {
        BlackSun b = new BlackSun();
        way(b, "fit east;hold north 5;check light");
        int[] doing = {1, 2, 0, 0, 3, 0};
        for (int term = 0; term < 6; term++) {
            due("term " + term, b.ways(0, term), doing[term]);
        }
    }

    static void promise12_aTermHeldAtZeroIsHeld() {
        BlackSun b = new BlackSun();
        way(b, "hold scale 0;hold turn -0");
        due(b.ways(0, SCALE), 2);
        due(b.ways(0, TURN), 2);
    }

    static void promise12_aWayWithoutTermsNamesNone() {
        BlackSun b = new BlackSun();
        way(b, "hand 1");
        for (int term = 0; term < 6; term++) {
            due("term " + term, b.ways(0, term), 0);
        }
    }

    static void promise12_aWayHasNothingOfTheOneBefore() {
        BlackSun b = new BlackSun();
        way(b, "fit east;hold north 5;check light");
        way(b, "fit bend");
        int[] doing = {0, 0, 0, 0, 0, 1};
        for (int term = 0; term < 6; term++) {
            due("term " + term, b.ways(1, term), doing[term]);
        }
        due(b.ways(0, NORTH), 2);
    }

    static void promise12_anotherTermIsNone() {
        BlackSun b = small("fit light");
        for (int term : new int[] {-1, 6, LEAST, MOST}) {
            due("term " + term, b.ways(0, term), -1);
        }
    }

    static void promise12_withoutTheWay() {
        BlackSun b = small("fit light");
        for (int way : new int[] {-1, 1, 10, LEAST, MOST}) {
            due("way " + way, b.ways(way, LIGHT), -1);
        }
        due(new BlackSun().ways(0, 0), -1);
    }

    static void promise12_theTenthWayIsNine() {
        BlackSun b = new BlackSun();
        for (int i = 0; i < 9; i++) {
            way(b, "fit light");
        }
        way(b, "check bend");
        due(b.ways(9, BEND), 3);
        due(b.ways(10, BEND), -1);
    }
}
