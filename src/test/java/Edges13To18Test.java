/** The edges of promises 13 to 18: what a way takes, its answers, what it misses, and what leaving out does to it. */
public final class Edges13To18Test extends Bench {
    private static final int[] NO_WEEKS = {-1, 10000, LEAST, MOST};
    private static final int[] NO_WAYS = {-1, 1, 10, LEAST, MOST};

    public static void main(String[] args) throws IllegalAccessException {
        runAll(Edges13To18Test.class);
    }

    // ---- 13: takes

    static void promise13_withoutImagesNoneIsTaken() {
        BlackSun b = small("fit light");
        due(b.takes(0, 0, -1), 0);
        due(b.takes(0, 0, 0), -1);
    }

    static void promise13_theKthByNumbers() {
        BlackSun b = small("fit light");
        b.image(2, 0, 0, 1, 1);
        b.image(1, 0, 0, 1, 1);
        b.image(0, 1, 0, 1, 1);
        due(b.takes(0, 0, -1), 2);
        due(b.takes(0, 0, 0), 1);
        due(b.takes(0, 0, 1), 2);
    }

    static void promise13_noKthBeyondThoseTaken() {
        BlackSun b = small("fit light");
        b.image(0, 0, 0, 1, 1);
        b.image(0, 1, 0, 1, 1);
        due(b.takes(0, 0, 2), -1);
        due(b.takes(0, 0, 100), -1);
        due(b.takes(0, 0, MOST), -1);
    }

    static void promise13_noKthBelowNone() {
        BlackSun b = small("fit light");
        b.image(0, 0, 0, 1, 1);
        due(b.takes(0, 0, -2), -1);
        due(b.takes(0, 0, LEAST), -1);
    }

    static void promise13_allHundred() {
        BlackSun b = small("fit light");
        for (int i = 0; i < 14; i++) {
            b.star(3, 3, 3);
        }
        for (int i = 0; i < 100; i++) {
            due(b.image(0, i % 16, i / 16, 1, 1), i);
        }
        due(b.takes(0, 0, -1), 100);
        due(b.takes(0, 0, 99), 99);
        due(b.takes(0, 0, 100), -1);
    }

    static void promise13_aWayHasNoLeavesOfTheOneBefore() {
        BlackSun b = small("leave if 1=1", "fit light", "leave if 1=2");
        b.image(0, 0, 0, 1, 1);
        due(b.takes(0, 0, -1), 0);
        due(b.takes(1, 0, -1), 1);
        due(b.takes(2, 0, -1), 1);
    }

    static void promise13_knownByTheWeek() {
        BlackSun b = small("fit light");
        b.clock(5);
        b.image(0, 0, 0, 1, 1);
        due(b.takes(0, 4, -1), 0);
        due(b.takes(0, 5, -1), 1);
        due(b.takes(0, 9999, -1), 1);
    }

    static void promise13_theLatestAsKnownThen() {
        BlackSun b = small("fit light");
        b.image(0, 0, 0, 1, 1);
        b.image(0, 0, 0, 2, 2);
        b.clock(5);
        b.image(0, 0, 0, 3, 3);
        due(b.takes(0, 4, -1), 1);
        due(b.takes(0, 4, 0), 1);
        due(b.takes(0, 5, -1), 1);
        due(b.takes(0, 5, 0), 2);
    }

    static void promise13_ofDarkAndNightPlatesNotOfChecks() {
        BlackSun b = small("fit light");
        b.image(2, 0, 0, 1, 1);
        due(b.takes(0, 0, -1), 0);
        b.image(1, 0, 0, 1, 1);
        due(b.takes(0, 0, 0), 1);
        b.image(0, 0, 0, 1, 1);
        due(b.takes(0, 0, 1), 2);
    }

    static void promise13_ofItsHandAlone() {
        BlackSun b = small("hand 0", "hand 7", "fit light");
        b.image(0, 0, 0, 1, 1);
        b.image(0, 0, 7, 1, 1);
        b.image(0, 0, 3, 1, 1);
        due(b.takes(0, 0, -1), 1);
        due(b.takes(0, 0, 0), 0);
        due(b.takes(1, 0, -1), 1);
        due(b.takes(1, 0, 0), 1);
        due(b.takes(2, 0, -1), 3);
    }

    static void promise13_oneTrueLeaveIsEnough() {
        BlackSun b = small("leave if x=1;leave if y=2", "leave if x=5;leave if y=5", "leave if x=1;leave if x=5");
        b.image(0, 0, 0, 1, 1);
        b.image(0, 1, 0, 1, 1);
        due(b.takes(0, 0, -1), 0);
        due(b.takes(1, 0, -1), 2);
        due(b.takes(2, 0, -1), 1);
        due(b.takes(2, 0, 0), 1);
    }

    static void promise13_whatIsLeftOutDoesNotBringBackWhatWasBeforeIt() {
        BlackSun b = small("leave if dx=2");
        b.image(0, 0, 0, 1, 1);
        b.clock(1);
        b.image(0, 0, 0, 2, 2);
        due(b.takes(0, 0, -1), 1);
        due(b.takes(0, 1, -1), 0);
    }

    static void promise13_eachWordIsWhatItSays() {
        String[] words = {"plate", "island", "kind", "heat", "star", "bright", "far", "x+0", "y", "dx", "dy", "week", "hand"};
        int[] values = {1, 2, 1, 33, 2, 7, 25, -3, 4, -12, 34, 6, 5};
        for (int i = 0; i < words.length; i++) {
            String value = values[i] < 0 ? "0-" + -values[i] : "" + values[i];
            leaves(words[i] + "=" + value, true);
            leaves(words[i] + "<" + value, false);
            leaves(words[i] + ">" + value, false);
        }
    }

    static void promise13_theSignsAtTheirEdges() {
        String[] signs = {"<", "<=", "=", ">=", ">"};
        boolean[] ofOneLess = {false, false, false, true, true};
        boolean[] ofTheSame = {false, true, true, true, false};
        boolean[] ofOneMore = {true, true, false, false, false};
        for (int i = 0; i < 5; i++) {
            leaves("y" + signs[i] + "3", ofOneLess[i]);
            leaves("y" + signs[i] + "4", ofTheSame[i]);
            leaves("y" + signs[i] + "5", ofOneMore[i]);
        }
    }

    static void promise13_eachSignWithinNotAndOr() {
        String[] signs = {"<", "<=", "=", ">=", ">"};
        for (int i = 0; i < 5; i++) {
            for (int value = 3; value <= 5; value++) {
                String fact = "y" + signs[i] + value;
                boolean isTrue = value < 4 ? i >= 3 : value > 4 ? i <= 1 : i >= 1 && i <= 3;
                leaves("not " + fact, !isTrue);
                leaves("not not " + fact, isTrue);
                leaves(fact + " and 1=1", isTrue);
                leaves("1=1 and " + fact, isTrue);
                leaves(fact + " or 1=2", isTrue);
                leaves("1=2 or " + fact, isTrue);
                leaves(fact + " and 1=2", false);
                leaves(fact + " or 1=1", true);
            }
        }
    }

    static void promise13_sumsGoFromTheLeft() {
        leaves("10-2-3=5", true);
        leaves("10-2+3=11", true);
        leaves("5=10-2-3", true);
        leaves("1-2-3-4=0-8", true);
    }

    static void promise13_theGreatestSums() {
        leaves("99999+99999+99999>99999+99999", true);
        leaves("0-99999-99999<0-99999", true);
        leaves("0" + "+99999".repeat(50) + ">99999", true);
    }

    static void promise13_andBindsMoreThanOr() {
        leaves("1=1 or 1=1 and 1=2", true);
        leaves("1=2 and 1=1 or 1=1", true);
        leaves("[1=1 or 1=1] and 1=2", false);
        leaves("1=2 and [1=1 or 1=1]", false);
    }

    static void promise13_notBindsMoreThanAndAndOr() {
        leaves("not 1=2 and 1=2", false);
        leaves("not 1=1 or 1=1", true);
        leaves("not [1=1 and 1=2]", true);
        leaves("not not 1=1", true);
        leaves("not not not 1=1", false);
    }

    static void promise13_tenDeep() {
        leaves("[".repeat(10) + "y=4" + "]".repeat(10), true);
        leaves("not ".repeat(10) + "y=4", true);
        leaves("not ".repeat(9) + "y=4", false);
        leaves("not [".repeat(5) + "y=4" + "]".repeat(5), false);
        leaves("[" + "[y=5 or y=4 and ".repeat(9) + "y=4" + "]".repeat(10), true);
        leaves("[" + "[y=5 or y=4 and ".repeat(9) + "y=5" + "]".repeat(10), false);
    }

    static void promise13_sixtyValuesAndFacts() {
        leaves("y=1" + " or y=1".repeat(18) + " or y=4", true);
        leaves("y=4" + " and y=4".repeat(18) + " and y=5", false);
        leaves("1" + "+1".repeat(57) + "=58", true);
    }

    static void promise13_withoutTheWay() {
        for (int way : NO_WAYS) {
            due("way " + way, small("fit light").takes(way, 0, -1), -1);
        }
    }

    static void promise13_anotherWeekIsNone() {
        for (int week : NO_WEEKS) {
            due("week " + week, small("fit light").takes(0, week, -1), -1);
        }
    }

    /** Whether a test leaves out an image of star 2 (-3, 4, bright 7) on plate 1 (island 2, night, heat 33). */
    private static void leaves(String test, boolean isLeft) {
        BlackSun b = new BlackSun();
        b.star(1, 1, 1);
        b.star(1, 1, 1);
        b.star(-3, 4, 7);
        b.plate(0, 0, 0);
        b.plate(2, 1, 33);
        b.clock(6);
        b.image(1, 2, 5, -12, 34);
        way(b, "leave if " + test);
        due(test, b.takes(0, 6, -1), isLeft ? 0 : 1);
    }

    // ---- 14: answer

    static void promise14_withoutRowsThereIsNoAnswer() {
        BlackSun b = small("fit light", "fit east;fit north", "hold light 5", "leave if 1=1");
        due(b.answer(0, LIGHT, 0), NO_ANSWER);
        due(b.answer(1, LIGHT, 0), NO_ANSWER);
        due(b.answer(2, LIGHT, 0), NO_ANSWER);
        b.image(0, 0, 0, 20, 0);
        due(b.answer(3, LIGHT, 0), NO_ANSWER);
    }

    static void promise14_severalNumbersAreNoAnswer() {
        BlackSun b = small("fit light;fit scale", "fit bend", "fit light");
        b.image(0, 0, 0, 20, 0);
        due(b.answer(0, LIGHT, 0), NO_ANSWER);
        due(b.answer(0, SCALE, 0), NO_ANSWER);
        due(b.answer(1, BEND, 0), NO_ANSWER);
        due(b.answer(2, LIGHT, 0), 500);
    }

    static void promise14_threeTermsInTwoRowsAreNoAnswer() {
        BlackSun b = small("fit east;fit north;fit scale", "fit east;fit north");
        b.image(0, 0, 0, 20, 7);
        due(b.answer(0, EAST, 0), NO_ANSWER);
        due(b.answer(1, EAST, 0), 20000);
        due(b.answer(1, NORTH, 0), 7000);
        b.image(0, 1, 0, 20, 7);
        due(b.answer(0, EAST, 0), 20000);
    }

    static void promise14_downwardsAboveZero() {
        BlackSun b = small("fit light;leave if star=0");
        b.image(0, 1, 0, 0, 1);
        due(b.answer(0, LIGHT, 0), 50);
        b.star(3, 0, 0);
        b.image(0, 2, 0, 1, 0);
        due(b.answer(0, LIGHT, 0), 33000 / (400 + 169));
    }

    static void promise14_downwardsBelowZero() {
        BlackSun b = small("fit scale");
        b.star(3, 0, 0);
        b.image(0, 2, 0, -1, 0);
        due(b.answer(0, SCALE, 0), -334);
        b.image(0, 2, 0, 1, 0);
        due(b.answer(0, SCALE, 0), 333);
        b.image(0, 2, 0, -3, 0);
        due(b.answer(0, SCALE, 0), -1000);
    }

    static void promise14_aNumberJustNotAbove99999999() {
        BlackSun b = great(new int[] {261, 92, -262, -144, 247, -256}, 1);
        due(b.answer(0, EAST, 0), 99999998);
    }

    static void promise14_aNumberAbove99999999IsNoAnswer() {
        BlackSun b = great(new int[] {288, -125, -298, -71, 287, -27}, 1);
        due(b.answer(0, EAST, 0), NO_ANSWER);
    }

    static void promise14_aNumberJustNotBelowMinus99999999() {
        BlackSun b = great(new int[] {261, 92, -262, -144, 247, -256}, -1);
        due(b.answer(0, EAST, 0), -99999999);
    }

    static void promise14_aNumberBelowMinus99999999IsNoAnswer() {
        BlackSun b = great(new int[] {288, -125, -298, -71, 287, -27}, -1);
        due(b.answer(0, EAST, 0), NO_ANSWER);
    }

    static void promise14_exactly99999999IsAnAnswer() {
        due(greatMeans(1).answer(0, NORTH, 0), 99999999);
    }

    static void promise14_exactlyMinus99999999IsAnAnswer() {
        due(greatMeans(-1).answer(0, NORTH, 0), -99999999);
    }

    /** East is 14299999900 / 143 thousandths here, 0.3 above 99999999: told downwards it is not above. */
    static void promise14_aNumberIsJudgedAsTold() {
        due(greatBetween(1).answer(0, EAST, 0), 99999999);
    }

    static void promise14_aNumberIsJudgedAsToldBelowZero() {
        due(greatBetween(-1).answer(0, EAST, 0), NO_ANSWER);
    }

    /** As great, with two images of the second star, so that east need not be a multiple of 1000 / 587 thousandths. */
    private static BlackSun greatBetween(int sign) {
        BlackSun b = great(new int[] {125, 280, -232, -128, 194, 277}, sign);
        b.image(0, 1, 1, sign * -155, sign * -171);
        return b;
    }

    /** North, turn and light are almost one here; each star has 25 images, so that north is so many thousandths exactly. */
    private static BlackSun greatMeans(int sign) {
        BlackSun b = new BlackSun();
        int[][] all = {{-4, 7, 163, -917}, {-9, 8, -562, 1009}, {-4, 7, 468, -1319}, {1, 1, 0, 0}};
        for (int p = 0; p < 5; p++) {
            b.plate(0, p < 4 ? 0 : 2, 0);
        }
        for (int star = 0; star < 4; star++) {
            b.star(all[star][0], all[star][1], 0);
            for (int i = 0; star < 3 && i < 25; i++) {
                int dx = Math.floorDiv(all[star][2] + i, 25);
                int dy = Math.floorDiv(all[star][3] + i, 25);
                b.image(i / 8, star, i % 8, sign * dx, sign * dy);
            }
        }
        b.image(4, 3, 0, sign * -299, sign * 299);
        way(b, "fit north;fit turn;fit light;check east;check scale;check bend");
        return b;
    }

    static void promise14_threeTermsAtOnce() {
        BlackSun b = new BlackSun();
        int[][] stars = {{1, 2}, {3, -1}, {-2, 2}};
        b.plate(0, 0, 0);
        way(b, "fit scale;fit bend;fit east");
        for (int i = 0; i < 3; i++) {
            int x = stars[i][0];
            int y = stars[i][1];
            b.star(x, y, 0);
            b.image(0, i, 0, 2 + 3 * x + 5 * x * y, 3 * y);
        }
        due(b.answer(0, EAST, 0), 2000);
        due(b.answer(0, SCALE, 0), 3000);
        due(b.answer(0, BEND, 0), 5000);
        due(b.miss(0, 0), 0);
        b.image(0, 2, 0, 2 - 6 - 20 + 7, 6);
        long[] answers = exactThree(stars, 7);
        due(b.answer(0, EAST, 0), answers[0]);
        due(b.answer(0, SCALE, 0), answers[1]);
        due(b.answer(0, BEND, 0), answers[2]);
    }

    /** East, scale and bend of threeTermsAtOnce with so much more in the last row in x, by Cramer's rule. */
    private static long[] exactThree(int[][] stars, int more) {
        long[][] m = new long[3][4];
        for (int i = 0; i < 3; i++) {
            int x = stars[i][0];
            int y = stars[i][1];
            long[] inX = {1, x, x * y, 2 + 3 * x + 5 * x * y + (i == 2 ? more : 0)};
            long[] inY = {0, y, 0, 3 * y};
            for (int r = 0; r < 3; r++) {
                for (int c = 0; c < 4; c++) {
                    m[r][c] += inX[r] * inX[c] + inY[r] * inY[c];
                }
            }
        }
        long below = det(m, 0, 1, 2);
        return new long[] {Math.floorDiv(1000 * det(m, 3, 1, 2), below), Math.floorDiv(1000 * det(m, 0, 3, 2), below),
            Math.floorDiv(1000 * det(m, 0, 1, 3), below)};
    }

    private static long det(long[][] m, int a, int b, int c) {
        return m[0][a] * (m[1][b] * m[2][c] - m[1][c] * m[2][b]) - m[0][b] * (m[1][a] * m[2][c] - m[1][c] * m[2][a])
                + m[0][c] * (m[1][a] * m[2][b] - m[1][b] * m[2][a]);
    }

    static void promise14_heldTermsBesideTwoFittedStayAsTold() {
        BlackSun b = small("fit light;fit scale;hold east 3000;hold bend 2000", "fit east;fit north;fit bend");
        b.image(0, 0, 0, 20, 0);
        b.image(0, 1, 0, 0, 20);
        due(b.answer(0, EAST, 0), 3000);
        due(b.answer(0, BEND, 0), 2000);
        due(b.answer(1, EAST, 0), NO_ANSWER);
        due(b.answer(0, EAST, 0), 3000);
        due(b.answer(0, BEND, 0), 2000);
    }

    static void promise14_heldTermsBesideOneFittedStayAsTold() {
        BlackSun b = small("fit light;hold east 3000;hold bend 2000", "fit scale;fit bend;fit north");
        b.image(0, 0, 0, 20, 0);
        due(b.answer(0, EAST, 0), 3000);
        due(b.answer(0, BEND, 0), 2000);
        due(b.answer(1, BEND, 0), NO_ANSWER);
        due(b.answer(0, EAST, 0), 3000);
        due(b.answer(0, BEND, 0), 2000);
    }

    static void promise14_ofAHundredImages() {
        BlackSun b = crowd("fit light;fit north");
        due(b.answer(0, LIGHT, 0), 500);
        due(b.answer(9, LIGHT, 0), 500);
        due(b.answer(0, NORTH, 0), 0);
    }

    static void promise14_aHundredImagesWithTheirCheck() {
        BlackSun b = new BlackSun();
        b.plate(0, 2, 0);
        for (int star = 0; star < 13; star++) {
            b.star(1, 0, 0);
        }
        b.plate(0, 0, 0);
        for (int i = 0; i < 99; i++) {
            b.image(0, i % 13, i % 8, i == 98 ? 299 : 2, 0);
        }
        b.image(1, 0, 0, 40, 0);
        way(b, "fit light;check east");
        due(b.answer(0, EAST, 0), (98 * 2 + 299) * 1000 / 99);
        due(b.answer(0, LIGHT, 0), 875);
    }

    static void promise14_oneNumberTooGreatLeavesNoAnswerForAnyTerm() {
        BlackSun b = great(new int[] {288, -125, -298, -71, 287, -27}, 1);
        for (int term = 0; term < 6; term++) {
            due("term " + term, b.answer(0, term, 0), NO_ANSWER);
        }
    }

    /**
     * East, scale and bend are almost one for these stars, and checked turn and north measure far: in 2348ths east is
     * 4 short of 100000 with the first of the rows that are told here, and 100000 with the second.
     */
    private static BlackSun great(int[] measured, int sign) {
        BlackSun b = new BlackSun();
        b.plate(0, 0, 0);
        b.plate(0, 2, 0);
        b.star(6, -9, 0);
        b.star(-7, 8, 0);
        b.star(-9, 6, 0);
        b.star(1, 1, 0);
        for (int i = 0; i < 3; i++) {
            b.image(0, i, 0, sign * measured[2 * i], sign * measured[2 * i + 1]);
        }
        b.image(1, 3, 0, sign * 299, sign * -299);
        way(b, "fit east;fit scale;fit bend;check north;check turn;check light");
        return b;
    }

    static void promise14_aWayThatFitsNothingHasAnAnswerIfSomeImageIsTaken() {
        BlackSun b = small("hold turn -7", "hand 3", "hand 0");
        due(b.answer(0, TURN, 0), NO_ANSWER);
        due(b.answer(2, TURN, 0), NO_ANSWER);
        b.image(0, 0, 0, 20, 0);
        due(b.answer(0, TURN, 0), -7);
        due(b.answer(0, LIGHT, 0), 0);
        due(b.answer(1, LIGHT, 0), NO_ANSWER);
        due(b.answer(2, LIGHT, 0), 0);
    }

    static void promise14_heldTermsAreAsTold() {
        BlackSun b = small("hold east 99999;hold north -99999;hold bend 0;fit light");
        b.image(0, 0, 0, 20, 0);
        due(b.answer(0, EAST, 0), 99999);
        due(b.answer(0, NORTH, 0), -99999);
        due(b.answer(0, BEND, 0), 0);
    }

    static void promise14_aTermNotNamedIsZero() {
        BlackSun b = small("fit light");
        due(b.answer(0, SCALE, 0), NO_ANSWER);
        b.image(0, 0, 0, 20, 0);
        due(b.answer(0, SCALE, 0), 0);
    }

    static void promise14_withoutCheckImagesTheWayHasNoAnswer() {
        BlackSun b = small("fit light;check scale", "check scale");
        b.image(0, 0, 0, 20, 0);
        due(b.answer(0, LIGHT, 0), NO_ANSWER);
        due(b.answer(1, SCALE, 0), NO_ANSWER);
        b.image(2, 0, 0, 5, 0);
        due(b.answer(0, LIGHT, 0), 375);
        due(b.answer(1, SCALE, 0), 5000);
    }

    static void promise14_aCheckThatSeveralNumbersFitLeavesNoAnswer() {
        BlackSun b = small("fit light;check bend");
        b.image(0, 0, 0, 20, 0);
        b.image(2, 0, 0, 5, 0);
        due(b.answer(0, LIGHT, 0), NO_ANSWER);
        b.star(1, 1, 0);
        b.image(2, 2, 0, 5, 0);
        due(b.answer(0, BEND, 0), 5000);
    }

    static void promise14_aCheckAloneIsNoAnswer() {
        BlackSun b = small("check scale");
        b.image(2, 0, 0, 5, 0);
        due(b.answer(0, SCALE, 0), NO_ANSWER);
        b.image(0, 0, 0, 5, 0);
        due(b.answer(0, SCALE, 0), 5000);
    }

    static void promise14_checksAreToldDownwards() {
        BlackSun b = small("check scale");
        b.star(3, 0, 0);
        b.image(0, 0, 0, 5, 0);
        b.image(2, 2, 0, -1, 0);
        due(b.answer(0, SCALE, 0), -334);
        b.image(2, 2, 0, 1, 0);
        due(b.answer(0, SCALE, 0), 333);
    }

    static void promise14_theGreatestCheck() {
        BlackSun b = small("check scale;fit light");
        b.image(2, 0, 0, -299, 0);
        b.image(0, 0, 0, 299, 0);
        due(b.answer(0, SCALE, 0), -299000);
        due(b.answer(0, LIGHT, 0), 598 * 25);
    }

    static void promise14_noCheckIsLeftOut() {
        BlackSun b = small("fit light;check scale;leave if kind=2 or dx=5");
        b.image(0, 0, 0, 20, 0);
        b.image(2, 0, 0, 5, 0);
        due(b.answer(0, SCALE, 0), 5000);
    }

    static void promise14_checksAreByItsHandAlone() {
        BlackSun b = small("fit light;check scale;hand 1", "fit light;check scale");
        b.image(0, 0, 1, 20, 0);
        b.image(2, 0, 0, 5, 0);
        due(b.answer(0, SCALE, 0), NO_ANSWER);
        due(b.answer(1, SCALE, 0), 5000);
        b.image(2, 0, 1, 7, 0);
        due(b.answer(0, SCALE, 0), 7000);
        due(b.answer(1, SCALE, 0), 6000);
    }

    static void promise14_checksAreAsKnownInTheWeek() {
        BlackSun b = small("fit light;check scale");
        b.image(0, 0, 0, 20, 0);
        b.clock(3);
        b.image(2, 0, 0, 5, 0);
        b.clock(6);
        b.image(2, 0, 0, 9, 0);
        due(b.answer(0, SCALE, 2), NO_ANSWER);
        due(b.answer(0, SCALE, 3), 5000);
        due(b.answer(0, SCALE, 5), 5000);
        due(b.answer(0, SCALE, 6), 9000);
    }

    static void promise14_checksOfSeveralTermsAreEachFittedAlone() {
        BlackSun b = small("check scale;check east;fit north");
        b.image(0, 0, 0, 20, 4);
        b.image(2, 0, 0, 5, 0);
        due(b.answer(0, SCALE, 0), 5000);
        due(b.answer(0, EAST, 0), 5000);
    }

    static void promise14_checkPlatesHaveLight() {
        BlackSun b = small("check light;fit east");
        b.image(0, 0, 0, 50, 0);
        b.image(2, 0, 0, 20, 0);
        due(b.answer(0, LIGHT, 0), 500);
        due(b.answer(0, EAST, 0), 30000);
    }

    static void promise14_aNightPlateHasNoLight() {
        BlackSun b = small("fit light", "hold light 1000;fit east");
        b.image(1, 0, 0, 20, 0);
        due(b.answer(0, LIGHT, 0), NO_ANSWER);
        due(b.answer(1, EAST, 0), -20000);
    }

    static void promise14_aNightPlateCountsTurnedInSign() {
        BlackSun b = small("fit east", "fit north");
        b.image(1, 0, 0, 20, -7);
        due(b.answer(0, EAST, 0), -20000);
        due(b.answer(1, NORTH, 0), 7000);
    }

    static void promise14_whatIsHeldIsNotTurnedByNight() {
        BlackSun b = small("fit east;hold scale 3000");
        b.image(1, 0, 0, 20, 0);
        due(b.answer(0, EAST, 0), -23000);
    }

    static void promise14_whatIsHeldIsCutTowardsZero() {
        BlackSun b = small("fit east;hold scale 1999", "fit east;hold scale -1999");
        b.image(0, 0, 0, 20, 0);
        due(b.answer(0, EAST, 0), 19000);
        due(b.answer(1, EAST, 0), 21000);
    }

    static void promise14_whatIsHeldOfEachTermIsCutByItself() {
        BlackSun b = small("fit east;hold scale 1999;hold light 24");
        b.image(0, 0, 0, 20, 0);
        due(b.answer(0, EAST, 0), 19000);
    }

    static void promise14_theFittedTermsMayBeTheFirstOrTheLast() {
        BlackSun b = small("fit east;fit light", "fit light;fit east", "fit north;fit bend", "fit bend");
        b.star(1, 1, 0);
        b.image(0, 2, 0, 20, 0);
        b.image(0, 0, 0, 40, 0);
        due(b.answer(0, LIGHT, 0), b.answer(1, LIGHT, 0));
        due(b.answer(2, NORTH, 0), 0);
        due(b.answer(2, BEND, 0), 20000);
        due(b.answer(3, BEND, 0), 20000);
    }

    static void promise14_withoutTheWay() {
        BlackSun b = small("fit light");
        b.image(0, 0, 0, 1, 1);
        for (int way : NO_WAYS) {
            due("way " + way, b.answer(way, LIGHT, 0), NOT_THERE);
        }
    }

    static void promise14_anotherTermIsNone() {
        BlackSun b = small("fit light");
        b.image(0, 0, 0, 1, 1);
        for (int term : new int[] {-1, 6, LEAST, MOST}) {
            due("term " + term, b.answer(0, term, 0), NOT_THERE);
        }
    }

    static void promise14_anotherWeekIsNone() {
        BlackSun b = small("fit light");
        b.image(0, 0, 0, 1, 1);
        for (int week : NO_WEEKS) {
            due("week " + week, b.answer(0, LIGHT, week), NOT_THERE);
        }
        due(b.answer(0, LIGHT, 9999), 25);
    }

    // ---- 15: miss

    static void promise15_noAnswerHasNoMiss() {
        BlackSun b = small("fit light", "fit light;fit scale", "check scale", "hold light 5");
        due(b.miss(0, 0), -1);
        due(b.miss(3, 0), -1);
        b.image(0, 0, 0, 20, 0);
        due(b.miss(1, 0), -1);
        due(b.miss(2, 0), -1);
    }

    static void promise15_aNumberTooGreatHasNoMiss() {
        due(great(new int[] {288, -125, -298, -71, 287, -27}, 1).miss(0, 0), -1);
    }

    static void promise15_nothingLeft() {
        BlackSun b = small("fit light");
        b.image(0, 0, 0, 20, 0);
        due(b.miss(0, 0), 0);
    }

    static void promise15_nothingIsLeftOfAnotherWay() {
        BlackSun b = small("fit east;fit north;fit light", "fit light;leave if star=1", "hold scale 0;leave if star=1");
        b.image(0, 0, 0, 20, 3);
        b.image(0, 1, 0, 7, 99);
        b.miss(0, 0);
        due(b.miss(1, 0), 9);
        b.miss(0, 0);
        due(b.miss(2, 0), 409);
    }

    static void promise15_ofAHundredImages() {
        BlackSun b = crowd("hold scale 1000");
        due(b.miss(0, 0), 100 * 19 * 19);
        due(b.miss(9, 0), 0);
    }

    static void promise15_eachRowByItself() {
        BlackSun b = small("fit light");
        b.image(0, 0, 0, 20, 3);
        b.image(0, 1, 0, -5, 20);
        due(b.miss(0, 0), 4 * 4 + 3 * 3 + 5 * 5 + 8 * 8);
    }

    static void promise15_whatIsFittedIsCutTowardsZeroAboveIt() {
        BlackSun b = small("fit scale");
        b.star(3, 0, 0);
        b.image(0, 2, 0, 1, 0);
        // 333 thousandths times 3 are less than a hair.
        due(b.miss(0, 0), 1);
    }

    static void promise15_whatIsFittedIsCutTowardsZeroBelowIt() {
        BlackSun b = small("fit scale");
        b.star(3, 0, 0);
        b.image(0, 2, 0, -1, 0);
        // -334 thousandths times 3 are more than a hair.
        due(b.miss(0, 0), 0);
        b.image(0, 2, 0, -2, 0);
        // -667 thousandths times 3 are -2.001.
        due(b.miss(0, 0), 0);
    }

    static void promise15_whatIsFittedIsCutAllTogether() {
        BlackSun b = small("fit light;fit scale");
        b.star(3, 0, 0);
        b.image(0, 0, 0, 1, 0);
        b.image(0, 2, 0, 6, 0);
        int scale = b.answer(0, SCALE, 0);
        int light = b.answer(0, LIGHT, 0);
        long first = 1 - (scale + 40 * light) / 1000;
        long second = 6 - (3 * scale + 13 * light) / 1000;
        due(b.miss(0, 0), first * first + second * second);
        due(scale / 1000 + 40 * light / 1000 != (scale + 40 * light) / 1000
                || 3 * scale / 1000 + 13 * light / 1000 != (3 * scale + 13 * light) / 1000, true);
    }

    static void promise15_aWayThatFitsNothingMissesD() {
        BlackSun b = small("hold scale 1999", "hold scale -1999", "hand 0");
        b.image(0, 0, 0, 20, 3);
        due(b.miss(0, 0), 19 * 19 + 3 * 3);
        due(b.miss(1, 0), 21 * 21 + 3 * 3);
        due(b.miss(2, 0), 20 * 20 + 3 * 3);
    }

    static void promise15_byNightTurnedAndWithoutLight() {
        BlackSun b = small("hold light 1000;hold scale 2000", "fit light");
        b.image(1, 0, 0, 5, 4);
        due(b.miss(0, 0), 7 * 7 + 4 * 4);
        b.image(0, 0, 0, 20, 0);
        due(b.miss(1, 0), 5 * 5 + 4 * 4);
    }

    static void promise15_aGreatMissByAllHands() {
        BlackSun b = small("hold bend 99999;hold scale 99999;hold turn 99999;hold light 99999;hold east 99999");
        b.star(-9, 9, 0);
        for (int hand = 0; hand < 8; hand++) {
            b.image(0, 2, hand, -299, -299);
            b.image(1, 2, hand, -299, -299);
        }
        // Bend gives 8099 here, scale and turn 899 each, light 199 and east 99.
        long darkX = -299 + 8099 + 899 + 899 + 199 - 99;
        long darkY = -299 - 899 + 899 - 199;
        long nightX = 299 + 8099 + 899 + 899 - 99;
        long nightY = 299 - 899 + 899;
        due(b.miss(0, 0), 8 * (darkX * darkX + darkY * darkY + nightX * nightX + nightY * nightY));
    }

    static void promise15_asKnownInTheWeek() {
        BlackSun b = small("fit light", "hold light 0");
        b.clock(5);
        b.image(0, 0, 0, 20, 3);
        b.clock(6);
        b.image(0, 0, 0, 40, 4);
        due(b.miss(0, 4), -1);
        due(b.miss(0, 5), 9);
        due(b.miss(0, 6), 16);
        due(b.miss(1, 5), 409);
        due(b.miss(0, 9999), 16);
    }

    static void promise15_withoutTheWay() {
        BlackSun b = small("fit light");
        b.image(0, 0, 0, 1, 1);
        for (int way : NO_WAYS) {
            due("way " + way, b.miss(way, 0), -1);
        }
    }

    static void promise15_anotherWeekIsNone() {
        BlackSun b = small("fit light");
        b.image(0, 0, 0, 1, 1);
        for (int week : NO_WEEKS) {
            due("week " + week, b.miss(0, week), -1);
        }
    }

    // ---- 16: each

    static void promise16_withoutAPlate() {
        BlackSun b = small("fit light");
        b.plate(1, 0, 0);
        b.image(0, 0, 0, 20, 0);
        b.image(3, 1, 0, 0, 20);
        due(b.each(0, 0, 0, 0), 1000);
        due(b.each(0, 0, 0, 3), 500);
    }

    static void promise16_withoutAStar() {
        BlackSun b = small("fit light");
        b.image(0, 0, 0, 20, 0);
        b.image(0, 1, 0, 0, 20);
        due(b.each(0, 0, 1, 0), 1000);
        due(b.each(0, 0, 1, 1), 500);
    }

    static void promise16_withoutAllThatIsTakenThereIsNoAnswer() {
        BlackSun b = small("fit light", "hold light 7");
        b.image(0, 0, 0, 20, 0);
        for (int way = 0; way < 2; way++) {
            due("way " + way, b.each(way, 0, 0, 0), NO_ANSWER);
            due("way " + way, b.each(way, 0, 1, 0), NO_ANSWER);
        }
        due(b.each(1, 0, 0, 1), 7);
    }

    static void promise16_withoutRowsThereIsNoAnswer() {
        BlackSun b = small("fit light");
        due(b.each(0, 0, 0, 0), NO_ANSWER);
        due(b.each(0, 0, 1, 0), NO_ANSWER);
    }

    static void promise16_whatHasNoImageChangesNothing() {
        BlackSun b = small("fit light");
        b.image(0, 0, 0, 20, 0);
        due(b.each(0, 0, 0, 1), 500);
        due(b.each(0, 0, 0, 2), 500);
        due(b.each(0, 0, 1, 1), 500);
    }

    static void promise16_leftOutTooBesideWhatTheWayLeavesOut() {
        BlackSun b = small("fit light;leave if star=1");
        b.image(0, 0, 0, 20, 0);
        b.image(0, 1, 0, 0, 20);
        due(b.each(0, 0, 1, 1), 500);
        due(b.each(0, 0, 1, 0), NO_ANSWER);
    }

    static void promise16_noCheckIsLeftOut() {
        BlackSun b = small("fit light;check scale");
        b.image(0, 0, 0, 20, 0);
        b.image(0, 1, 0, 0, 20);
        b.image(2, 0, 0, 8, 0);
        due(b.each(0, 0, 0, 2), (40 * 12 + 20 * 4) / 2);
        due(b.each(0, 0, 1, 0), 200);
    }

    static void promise16_withoutCheckImagesThereIsNoAnswer() {
        BlackSun b = small("fit light;check scale");
        b.image(0, 0, 0, 20, 0);
        due(b.each(0, 0, 0, 1), NO_ANSWER);
    }

    static void promise16_lightThatIsNotFittedIsAsItIs() {
        BlackSun b = small("fit east", "hold light -5");
        b.image(0, 0, 0, 20, 0);
        due(b.each(0, 0, 0, 1), 0);
        due(b.each(1, 0, 0, 1), -5);
    }

    static void promise16_asKnownInTheWeek() {
        BlackSun b = small("fit light");
        b.clock(5);
        b.image(0, 0, 0, 20, 0);
        b.clock(6);
        b.image(0, 0, 0, 40, 0);
        b.image(0, 1, 0, 0, 60);
        due(b.each(0, 4, 0, 1), NO_ANSWER);
        due(b.each(0, 5, 0, 1), 500);
        due(b.each(0, 5, 1, 1), 500);
        due(b.each(0, 6, 1, 1), 1000);
        due(b.each(0, 5, 1, 0), NO_ANSWER);
        due(b.each(0, 9999, 1, 0), 3000);
    }

    static void promise16_withoutThePlateOrTheStar() {
        BlackSun b = small("fit light");
        b.image(0, 0, 0, 20, 0);
        for (int k : new int[] {-1, 30, LEAST, MOST}) {
            due("plate " + k, b.each(0, 0, 0, k), NOT_THERE);
            due("star " + k, b.each(0, 0, 1, k), NOT_THERE);
        }
        due(b.each(0, 0, 0, 3), NOT_THERE);
        due(b.each(0, 0, 1, 2), NOT_THERE);
    }

    static void promise16_anotherWhatIsNone() {
        BlackSun b = small("fit light");
        b.image(0, 0, 0, 20, 0);
        for (int what : new int[] {-1, 2, LEAST, MOST}) {
            due("what " + what, b.each(0, 0, what, 0), NOT_THERE);
        }
    }

    static void promise16_withoutTheWayOrTheWeek() {
        BlackSun b = small("fit light");
        b.image(0, 0, 0, 20, 0);
        for (int way : NO_WAYS) {
            due("way " + way, b.each(way, 0, 0, 1), NOT_THERE);
        }
        for (int week : NO_WEEKS) {
            due("week " + week, b.each(0, week, 0, 1), NOT_THERE);
        }
    }

    static void promise16_theLastPlateAndTheLastStar() {
        BlackSun b = new BlackSun();
        for (int i = 0; i < 30; i++) {
            b.star(1, 0, 0);
        }
        for (int i = 0; i < 16; i++) {
            b.plate(0, 0, 0);
        }
        way(b, "fit light");
        b.image(0, 0, 0, 20, 0);
        b.image(15, 29, 0, 40, 0);
        due(b.each(0, 0, 0, 15), 500);
        due(b.each(0, 0, 1, 29), 500);
        due(b.each(0, 0, 0, 16), NOT_THERE);
        due(b.each(0, 0, 1, 30), NOT_THERE);
    }

    // ---- 17: ruled

    /** One star and plates of one dark island; plate p has an image of so many times 40 hairs, if that is not 0. */
    private static BlackSun plates(int... times) {
        BlackSun b = new BlackSun();
        b.star(1, 0, 0);
        way(b, "fit light");
        for (int p = 0; p < times.length; p++) {
            b.plate(0, 0, 0);
            if (times[p] != 0) {
                b.image(p, 0, 0, 40 * times[p], 0);
            }
        }
        return b;
    }

    static void promise17_withoutRowsNoSetHasAnAnswer() {
        due(plates(0, 0).ruled(0, LIGHT, 0, 0, 0), NO_ANSWER);
        due(plates(0, 0).ruled(0, LIGHT, 0, 0, 1), NO_ANSWER);
        due(plates().ruled(0, LIGHT, 0, 0, 0), NO_ANSWER);
    }

    static void promise17_theSetWithoutAnyIsOneToo() {
        BlackSun b = plates(1, 3);
        due(b.ruled(0, LIGHT, 0, 2000, 0), 0);
        due(b.ruled(0, LIGHT, 0, 2000, 1), 2000);
    }

    static void promise17_aSetThatLeavesNothingCountsNothing() {
        BlackSun b = plates(5);
        due(b.ruled(0, LIGHT, 0, 0, 0), 0);
        due(b.ruled(0, LIGHT, 0, 0, 1), 5000);
    }

    static void promise17_behindASetWithoutAnAnswerOthersCount() {
        BlackSun b = small("fit light;fit scale");
        b.plate(0, 0, 0);
        b.image(0, 0, 0, 43, 0);
        b.image(0, 1, 0, 0, 26);
        b.image(3, 0, 0, 20, 0);
        // Without plate 0 there is one star alone, and several numbers; without plate 3 light is 1000, and scale 3000.
        due(b.ruled(0, LIGHT, 0, 1000, 0), 8);
        due(b.ruled(0, LIGHT, 0, 1000, 1), 1000);
        due(b.ruled(0, SCALE, 0, 3000, 1), 3000);
    }

    static void promise17_theNearestFromAboveOrBelow() {
        BlackSun b = plates(1, 7);
        due(b.ruled(0, LIGHT, 0, 2499, 1), 1000);
        due(b.ruled(0, LIGHT, 0, 2501, 1), 4000);
        due(b.ruled(0, LIGHT, 0, 5499, 1), 4000);
        due(b.ruled(0, LIGHT, 0, 5501, 1), 7000);
    }

    static void promise17_ofSeveralTheFewest() {
        // None left out is as near from above as plate 1 left out is from below.
        due(plates(1, 7).ruled(0, LIGHT, 0, 2500, 0), 0);
        due(plates(1, 7).ruled(0, LIGHT, 0, 5500, 0), 0);
        // Without plate 2 it is 3000, and without plates 0 and 1, whose number is less, too; plate 8 always stays.
        due(plates(1, 4, 2, 0, 0, 0, 0, 0, 4).ruled(0, LIGHT, 0, 3000, 0), 4);
        due(plates(1, 4, 2, 0, 0, 0, 0, 0, 4).ruled(0, LIGHT, 0, 3001, 0), 4);
        due(plates(1, 4, 2, 0, 0, 0, 0, 0, 4).ruled(0, LIGHT, 0, 2999, 0), 4);
    }

    static void promise17_ofAsManyTheLeastNumber() {
        due(plates(2, 2, 5).ruled(0, LIGHT, 0, 3500, 0), 1);
        due(plates(5, 2, 2).ruled(0, LIGHT, 0, 3500, 0), 2);
        due(plates(1, 1, 1, 7).ruled(0, LIGHT, 0, 4000, 0), 3);
    }

    static void promise17_theFirstEightPlatesAlone() {
        BlackSun b = plates(1, 0, 0, 0, 0, 0, 0, 3, 5);
        due(b.ruled(0, LIGHT, 0, 1000, 1), 3000);
        due(b.ruled(0, LIGHT, 0, 1000, 0), 0);
        due(b.ruled(0, LIGHT, 0, 5000, 1), 5000);
        due(b.ruled(0, LIGHT, 0, 5000, 0), 1 | 128);
    }

    static void promise17_checkPlatesAreNotAmongTheEight() {
        BlackSun b = new BlackSun();
        b.star(1, 0, 0);
        way(b, "fit light");
        b.plate(0, 2, 0);
        b.plate(0, 2, 0);
        for (int i = 0; i < 9; i++) {
            b.plate(0, 0, 0);
        }
        b.image(9, 0, 0, 40, 0);
        b.image(10, 0, 0, 80, 0);
        due(b.ruled(0, LIGHT, 0, 2000, 0), 1 << 9);
        due(b.ruled(0, LIGHT, 0, 1000, 0), 0);
        due(b.ruled(0, LIGHT, 0, 1000, 1), 1500);
    }

    static void promise17_ofSixteenPlatesOfWhichFewAreDark() {
        BlackSun b = new BlackSun();
        b.star(1, 0, 0);
        way(b, "fit light");
        for (int p = 0; p < 16; p++) {
            b.plate(0, p == 3 || p == 15 ? 0 : 2, 0);
        }
        b.image(3, 0, 0, 40, 0);
        b.image(15, 0, 0, 80, 0);
        due(b.ruled(0, LIGHT, 0, 1000, 0), 1 << 15);
        due(b.ruled(0, LIGHT, 0, 2000, 0), 1 << 3);
    }

    static void promise17_ofAHundredImages() {
        BlackSun b = crowd("fit light");
        due(b.ruled(0, LIGHT, 0, 0, 0), 0);
        due(b.ruled(9, LIGHT, 0, 0, 1), 500);
    }

    static void promise17_nightPlatesAreAmongTheEight() {
        BlackSun b = new BlackSun();
        b.star(1, 0, 0);
        way(b, "fit east");
        for (int i = 0; i < 9; i++) {
            b.plate(0, 1, 0);
        }
        b.image(7, 0, 0, -1, 0);
        b.image(8, 0, 0, -3, 0);
        due(b.ruled(0, EAST, 0, 3000, 0), 128);
        due(b.ruled(0, EAST, 0, 1000, 0), 0);
    }

    static void promise17_aTermOtherThanLight() {
        BlackSun b = small("fit east;hold light 0");
        b.image(0, 0, 0, 20, 0);
        b.image(1, 0, 0, 20, 0);
        due(b.ruled(0, EAST, 0, 20000, 0), 2);
        due(b.ruled(0, EAST, 0, -20000, 0), 1);
        due(b.ruled(0, EAST, 0, -20000, 1), -20000);
    }

    static void promise17_aTermThatIsNotFittedIsNone() {
        BlackSun b = small("fit light;hold scale 1;check turn");
        b.image(0, 0, 0, 20, 0);
        b.image(2, 0, 0, 20, 0);
        due(b.ruled(0, SCALE, 0, 0, 0), NOT_THERE);
        due(b.ruled(0, TURN, 0, 0, 0), NOT_THERE);
        due(b.ruled(0, EAST, 0, 0, 0), NOT_THERE);
        due(b.ruled(0, LIGHT, 0, 0, 0), 0);
    }

    static void promise17_anotherTermIsNone() {
        for (int term : new int[] {-1, 6, LEAST, MOST}) {
            due("term " + term, plates(1).ruled(0, term, 0, 0, 0), NOT_THERE);
        }
    }

    static void promise17_toldNumbersGoFromMinus99999To99999() {
        BlackSun b = plates(1, 3);
        due(b.ruled(0, LIGHT, 0, -99999, 1), 1000);
        due(b.ruled(0, LIGHT, 0, 99999, 1), 3000);
        for (int number : new int[] {-100000, 100000, LEAST, MOST}) {
            due("number " + number, b.ruled(0, LIGHT, 0, number, 1), NOT_THERE);
        }
    }

    static void promise17_anotherWhatIsNone() {
        for (int what : new int[] {-1, 2, LEAST, MOST}) {
            due("what " + what, plates(1).ruled(0, LIGHT, 0, 0, what), NOT_THERE);
        }
    }

    static void promise17_asKnownInTheWeek() {
        BlackSun b = small("fit light");
        b.plate(0, 0, 0);
        b.clock(5);
        b.image(0, 0, 0, 20, 0);
        b.clock(6);
        b.image(3, 0, 0, 60, 0);
        due(b.ruled(0, LIGHT, 4, 1500, 0), NO_ANSWER);
        due(b.ruled(0, LIGHT, 5, 1500, 1), 500);
        due(b.ruled(0, LIGHT, 6, 1500, 1), 1500);
        due(b.ruled(0, LIGHT, 9999, 1500, 0), 1);
    }

    static void promise17_withoutTheWayOrTheWeek() {
        for (int way : NO_WAYS) {
            due("way " + way, plates(1).ruled(way, LIGHT, 0, 0, 0), NOT_THERE);
        }
        for (int week : NO_WEEKS) {
            due("week " + week, plates(1).ruled(0, LIGHT, week, 0, 0), NOT_THERE);
        }
    }

    static void promise17_withoutCheckImagesNoSetHasAnAnswer() {
        BlackSun b = small("fit light;check scale");
        b.image(0, 0, 0, 20, 0);
        due(b.ruled(0, LIGHT, 0, 0, 0), NO_ANSWER);
    }

    // ---- 18: three

    static void promise18_theLeastMiss() {
        BlackSun b = small("fit light");
        b.image(0, 0, 0, 20, 0);
        due(b.three(0, 0, 500, 0, 900), 0);
        due(b.three(0, 0, 0, 500, 900), 1);
        due(b.three(0, 0, 0, 900, 500), 2);
    }

    static void promise18_ofSeveralTheFirst() {
        BlackSun b = small("fit light");
        b.image(0, 0, 0, 20, 0);
        due(b.three(0, 0, 7, 7, 7), 0);
        due(b.three(0, 0, 0, 400, 600), 1);
        due(b.three(0, 0, 400, 0, 600), 0);
        // Both 500 and 524 thousandths of 40 are 20 hairs.
        due(b.three(0, 0, 0, 524, 500), 1);
    }

    static void promise18_withoutRowsNoneHasAnAnswer() {
        due(small("fit light").three(0, 0, 1, 2, 3), -2);
    }

    static void promise18_withoutCheckImagesNoneHasAnAnswer() {
        BlackSun b = small("check scale");
        b.image(0, 0, 0, 20, 0);
        due(b.three(0, 0, 1, 2, 3), -2);
    }

    static void promise18_aCheckOfLightIsNotAsked() {
        BlackSun b = small("check light");
        b.image(0, 0, 0, 20, 0);
        due(b.answer(0, LIGHT, 0), NO_ANSWER);
        due(b.three(0, 0, 1, 500, 3), 1);
    }

    static void promise18_inPlaceOfLightThatIsHeldOrNotNamed() {
        BlackSun b = small("hold light 7", "hand 0");
        b.image(0, 0, 0, 20, 0);
        due(b.three(0, 0, 7, 0, 500), 2);
        due(b.three(1, 0, 7, 500, 0), 1);
    }

    static void promise18_otherTermsAreFittedEachTime() {
        BlackSun b = small("fit light;fit scale");
        b.image(0, 0, 0, 20, 0);
        // Scale takes up whatever light leaves.
        due(b.three(0, 0, 99999, 5, 7), 0);
        b.image(0, 1, 0, 0, 20);
        due(b.three(0, 0, 0, 333, 700), 1);
    }

    static void promise18_otherTermsThatSeveralNumbersFitHaveNoAnswer() {
        BlackSun b = small("fit light;fit bend");
        b.image(0, 0, 0, 20, 0);
        due(b.three(0, 0, 0, 500, 9), -2);
    }

    static void promise18_numbersGoFrom0To99999() {
        BlackSun b = small("fit light");
        b.image(0, 0, 0, 20, 0);
        due(b.three(0, 0, 99999, 99999, 0), 2);
        for (int number : new int[] {-1, 100000, LEAST, MOST}) {
            due("a " + number, b.three(0, 0, number, 0, 0), -1);
            due("b " + number, b.three(0, 0, 0, number, 0), -1);
            due("c " + number, b.three(0, 0, 0, 0, number), -1);
        }
    }

    static void promise18_asKnownInTheWeek() {
        BlackSun b = small("fit light", "fit light;check east");
        b.clock(5);
        b.image(0, 0, 0, 20, 0);
        b.image(2, 0, 0, 0, 0);
        b.clock(6);
        b.image(0, 0, 0, 40, 0);
        b.clock(7);
        b.image(2, 0, 0, 20, 0);
        due(b.three(0, 4, 1500, 500, 1000), -2);
        due(b.three(0, 5, 1500, 500, 1000), 1);
        due(b.three(0, 6, 1500, 500, 1000), 2);
        due(b.three(0, 9999, 1500, 500, 1000), 2);
        due(b.three(1, 4, 1500, 500, 1000), -2);
        due(b.three(1, 5, 1500, 500, 1000), 1);
        due(b.three(1, 6, 1500, 500, 1000), 2);
        due(b.three(1, 7, 1500, 500, 1000), 1);
    }

    static void promise18_withoutTheWayOrTheWeek() {
        BlackSun b = small("fit light");
        b.image(0, 0, 0, 20, 0);
        for (int way : NO_WAYS) {
            due("way " + way, b.three(way, 0, 0, 0, 0), -1);
        }
        for (int week : NO_WEEKS) {
            due("week " + week, b.three(0, week, 0, 0, 0), -1);
        }
    }

    static void promise18_ofAHundredImages() {
        BlackSun b = crowd("fit light;fit north");
        due(b.three(0, 0, 475, 550, 500), 2);
        due(b.three(9, 0, 475, 524, 500), 1);
    }

    static void promise18_theWayStaysAsItIs() {
        BlackSun b = small("fit light");
        b.image(0, 0, 0, 20, 0);
        b.three(0, 0, 1, 2, 3);
        due(b.answer(0, LIGHT, 0), 500);
        due(b.ways(0, LIGHT), 1);
    }
}
