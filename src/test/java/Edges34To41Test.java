/** The edges of promises 34 to 41: glasses, where stars stand, heat, hands against hands, marks and counts. */
public final class Edges34To41Test extends Bench {
    private static final int[] NO_WEEKS = {-1, 10000, LEAST, MOST};
    private static final int[] NO_NUMBERS = {-1, 100000, LEAST, MOST};
    private static final int[] NO_PLATES = {-1, 3, 16, LEAST, MOST};
    private static final int[] NO_STARS = {-1, 2, 30, LEAST, MOST};
    private static final int NO_PLACE = -1000000;

    public static void main(String[] args) throws IllegalAccessException {
        runAll(Edges34To41Test.class);
    }

    // ---- 34: glass

    static void promise34_coldGoesFromMinus9999To9999() {
        BlackSun b = small();
        due(b.glass(0, EAST, -9999, 0), true);
        due(b.stands(0, 0, 0, 0), -9);
        due(b.glass(0, EAST, 9999, 0), true);
        due(b.stands(0, 0, 0, 0), 9);
    }

    static void promise34_anotherColdIsRefusedAndNothingHappens() {
        BlackSun b = small();
        b.glass(0, EAST, 5000, 0);
        for (int cold : new int[] {-10000, 10000, LEAST, MOST}) {
            due("cold " + cold, b.glass(0, EAST, cold, 99), false);
        }
        due(b.stands(0, 0, 0, 0), 5);
    }

    static void promise34_moreGoesFromMinus99To99() {
        BlackSun b = small();
        b.plate(0, 0, 99);
        due(b.glass(0, EAST, 0, -99), true);
        due(b.stands(3, 0, 0, 0), -9);
        due(b.glass(0, EAST, 0, 99), true);
        due(b.stands(3, 0, 0, 0), 9);
    }

    static void promise34_anotherMoreIsRefusedAndNothingHappens() {
        BlackSun b = small();
        b.glass(0, EAST, 5000, 0);
        for (int more : new int[] {-100, 100, LEAST, MOST}) {
            due("more " + more, b.glass(0, EAST, 7000, more), false);
        }
        due(b.stands(0, 0, 0, 0), 5);
    }

    static void promise34_lightIsRefused() {
        BlackSun b = small();
        due(b.glass(0, LIGHT, 5000, 5), false);
        due(b.stands(0, 0, 0, 0), 0);
    }

    static void promise34_eachTermButLight() {
        BlackSun b = small();
        for (int term = 0; term < 6; term++) {
            due("term " + term, b.glass(0, term, 0, 0), term != LIGHT);
        }
        for (int term : new int[] {-1, 6, LEAST, MOST}) {
            due("term " + term, b.glass(0, term, 0, 0), false);
        }
    }

    static void promise34_islandsAre0To3() {
        BlackSun b = new BlackSun();
        due(b.glass(0, EAST, 1, 1), true);
        due(b.glass(3, BEND, 1, 1), true);
        for (int island : new int[] {-1, 4, LEAST, MOST}) {
            due("island " + island, b.glass(island, EAST, 1, 1), false);
        }
    }

    static void promise34_asToldLast() {
        BlackSun b = small();
        b.glass(0, EAST, 5000, 99);
        b.glass(0, EAST, 2000, 0);
        due(b.stands(0, 0, 0, 0), 2);
    }

    static void promise34_eachIslandAndEachTermByItself() {
        BlackSun b = small();
        b.plate(3, 0, 0);
        b.glass(0, EAST, 5000, 0);
        b.glass(3, NORTH, 7000, 0);
        due(b.stands(0, 0, 0, 0), 5);
        due(b.stands(0, 0, 0, 1), 0);
        due(b.stands(3, 0, 0, 0), 0);
        due(b.stands(3, 0, 0, 1), 7);
    }

    // ---- 35: stands

    static void promise35_zeroAtFirst() {
        BlackSun b = small();
        for (int island = 1; island < 4; island++) {
            b.plate(island, 0, 99);
        }
        for (int plate = 0; plate < 6; plate++) {
            due("plate " + plate, b.stands(plate, 1, 0, 0), 0);
            due("plate " + plate, b.stands(plate, 1, 0, 1), 0);
        }
    }

    static void promise35_cutTowardsZeroAboveIt() {
        BlackSun b = small();
        b.glass(0, EAST, 1999, 0);
        due(b.stands(0, 0, 0, 0), 1);
        b.glass(0, EAST, 999, 0);
        due(b.stands(0, 0, 0, 0), 0);
        b.glass(0, EAST, 1000, 0);
        due(b.stands(0, 0, 0, 0), 1);
    }

    static void promise35_cutTowardsZeroBelowIt() {
        BlackSun b = small();
        b.glass(0, EAST, -1999, 0);
        due(b.stands(0, 0, 0, 0), -1);
        b.glass(0, EAST, -999, 0);
        due(b.stands(0, 0, 0, 0), 0);
        b.glass(0, EAST, -1000, 0);
        due(b.stands(0, 0, 0, 0), -1);
    }

    static void promise35_eachTermByItself() {
        BlackSun b = small();
        b.glass(0, EAST, 999, 0);
        b.glass(0, SCALE, 999, 0);
        due(b.stands(0, 0, 24, 0), 0);
        b.glass(0, SCALE, -1500, 0);
        b.glass(0, EAST, 1500, 0);
        due(b.stands(0, 0, 49, 0), 1);
    }

    static void promise35_coldAndHeatTimesMoreAreCutTogether() {
        BlackSun b = small();
        b.glass(0, EAST, 500, 50);
        due(b.stands(0, 0, 0, 0), 1);
        b.glass(0, EAST, 500, -51);
        due(b.stands(0, 0, 0, 0), 0);
        b.glass(0, EAST, -1999, 99);
        due(b.stands(0, 0, 0, 0), -1);
    }

    static void promise35_lightIsZeroByNightAlone() {
        BlackSun b = small();
        due(b.stands(0, 0, 1000, 0), 40);
        due(b.stands(1, 0, 1000, 0), 0);
        due(b.stands(2, 0, 1000, 0), 40);
    }

    static void promise35_lightGoesFrom0To99999() {
        BlackSun b = small();
        due(b.stands(0, 0, 0, 0), 0);
        due(b.stands(0, 0, 99999, 0), 3999);
        for (int light : NO_NUMBERS) {
            due("light " + light, b.stands(0, 0, light, 0), NO_PLACE);
        }
    }

    static void promise35_asFarAsItGoes() {
        BlackSun b = new BlackSun();
        b.star(-9, 9, 0);
        b.plate(3, 0, 99);
        for (int term = 0; term < 6; term++) {
            b.glass(3, term, term == EAST ? -9999 : 9999, term == EAST ? -99 : 99);
        }
        // 19800 thousandths: east 19, scale and turn 178 each, bend 1603; light 199.
        due(b.stands(0, 0, 99999, 0), -19 - 178 - 178 - 199 - 1603);
        due(b.stands(0, 0, 99999, 1), 19 + 178 - 178 + 199);
    }

    static void promise35_withoutThePlateTheStarOrTheAxis() {
        BlackSun b = small();
        for (int plate : NO_PLATES) {
            due("plate " + plate, b.stands(plate, 0, 0, 0), NO_PLACE);
        }
        for (int star : NO_STARS) {
            due("star " + star, b.stands(0, star, 0, 0), NO_PLACE);
        }
        for (int axis : new int[] {-1, 2, LEAST, MOST}) {
            due("axis " + axis, b.stands(0, 0, 0, axis), NO_PLACE);
        }
    }

    // ---- 36: off

    static void promise36_withoutImagesItIsZero() {
        due(small().off(0, 0, 500), 0);
    }

    static void promise36_whereItStandsExactly() {
        BlackSun b = small();
        b.image(0, 0, 0, 20, 0);
        due(b.off(0, 0, 500), 0);
        due(b.off(0, 0, 524), 0);
        due(b.off(0, 0, 525), 1);
        due(b.off(0, 0, 499), 1);
    }

    static void promise36_ofAllHandsInXAndY() {
        BlackSun b = small();
        b.image(0, 0, 0, 1, -2);
        b.image(0, 0, 7, 3, 4);
        b.image(0, 1, 3, 5, 6);
        due(b.off(0, 0, 0), 1 + 4 + 9 + 16 + 25 + 36);
    }

    static void promise36_ofThePlateAlone() {
        BlackSun b = small();
        b.image(0, 0, 0, 1, 0);
        b.image(1, 0, 0, 3, 0);
        b.image(2, 0, 0, 5, 0);
        due(b.off(0, 0, 0), 1);
        due(b.off(1, 0, 0), 9);
        due(b.off(2, 0, 0), 25);
    }

    static void promise36_byNightNotTurnedAndWithoutLight() {
        BlackSun b = small();
        b.glass(0, EAST, 3000, 0);
        b.image(1, 0, 0, 5, 0);
        due(b.off(1, 0, 99999), 4);
    }

    static void promise36_asKnownInTheWeek() {
        BlackSun b = small();
        b.clock(3);
        b.image(0, 0, 0, 1, 0);
        b.clock(5);
        b.image(0, 0, 0, 2, 0);
        due(b.off(0, 2, 0), 0);
        due(b.off(0, 3, 0), 1);
        due(b.off(0, 4, 0), 1);
        due(b.off(0, 5, 0), 4);
    }

    static void promise36_byItsHeatAsTold() {
        BlackSun b = small();
        b.plate(3, 0, 60);
        b.glass(3, EAST, 0, 50);
        b.image(3, 0, 0, 10, 0);
        due(b.off(3, 0, 0), 49);
        due(b.off(3, 0, 100), 9);
    }

    static void promise36_eachImageByItsStar() {
        BlackSun b = small();
        b.star(-3, 4, 0);
        b.glass(0, SCALE, 1000, 0);
        b.image(0, 2, 5, 10, 20);
        due(b.off(0, 0, 0), 13 * 13 + 16 * 16);
        due(b.off(0, 0, 1000), 17 * 17 + 10 * 10);
        b.image(1, 1, 5, 10, 20);
        due(b.off(1, 0, 0), 10 * 10 + 18 * 18);
    }

    static void promise36_aGreatOff() {
        BlackSun b = small();
        for (int hand = 0; hand < 8; hand++) {
            b.image(0, 0, hand, -299, 299);
        }
        due(b.off(0, 0, 99999), 8L * (4298 * 4298 + 299 * 299));
    }

    static void promise36_ofAHundredImages() {
        BlackSun b = crowd("fit light");
        due(b.off(0, 0, 0), 7 * 400);
        due(b.off(15, 0, 0), 6 * 400);
        due(b.off(15, 0, 500), 0);
    }

    static void promise36_lightGoesFrom0To99999() {
        BlackSun b = small();
        due(b.off(0, 0, 0), 0);
        due(b.off(0, 0, 99999), 0);
        for (int light : NO_NUMBERS) {
            due("light " + light, b.off(0, 0, light), -1);
        }
    }

    static void promise36_withoutThePlateOrTheWeek() {
        BlackSun b = small();
        for (int plate : NO_PLATES) {
            due("plate " + plate, b.off(plate, 0, 0), -1);
        }
        for (int week : NO_WEEKS) {
            due("week " + week, b.off(0, week, 0), -1);
        }
    }

    // ---- 37: heat

    static void promise37_withoutImagesKnownThereIsNone() {
        BlackSun b = small();
        due(b.heat(0, 0, 0), -1);
        b.clock(5);
        b.image(0, 0, 0, 1, 0);
        b.image(1, 0, 0, 1, 0);
        due(b.heat(0, 4, 0), -1);
        due(b.heat(0, 5, 0), 0);
        due(b.heat(2, 5, 0), -1);
    }

    static void promise37_ofSeveralTheLeast() {
        BlackSun b = small();
        b.image(0, 0, 0, 5, 0);
        due(b.heat(0, 0, 0), 0);
        b.glass(0, EAST, 0, 99);
        // From 51 degrees on it is five hairs, from 61 on six.
        due(b.heat(0, 0, 0), 51);
    }

    static void promise37_theLeastOfTwoOnBothSides() {
        BlackSun b = small();
        b.glass(0, EAST, 0, 50);
        b.image(0, 0, 0, 1, 0);
        b.image(0, 0, 1, 2, 0);
        // One hair, from 20 degrees on, is as far off as two.
        due(b.heat(0, 0, 0), 20);
    }

    static void promise37_zeroDegreesAreSome() {
        BlackSun b = small();
        b.glass(0, EAST, 3000, 99);
        b.image(0, 0, 0, 1, 0);
        due(b.heat(0, 0, 0), 0);
        b.image(0, 0, 0, 3, 0);
        due(b.heat(0, 0, 0), 0);
    }

    static void promise37_99DegreesAreTheMost() {
        BlackSun b = small();
        b.star(-9, 9, 0);
        b.glass(0, SCALE, 0, 99);
        b.image(0, 2, 0, -299, 299);
        // 99 degrees make 88 hairs, 98 make 87.
        due(b.heat(0, 0, 0), 99);
        b.image(0, 2, 0, -87, 87);
        due(b.heat(0, 0, 0), 98);
        b.image(0, 2, 0, -88, 88);
        due(b.heat(0, 0, 0), 99);
    }

    static void promise37_inPlaceOfWhatWasTold() {
        BlackSun b = small();
        b.glass(0, EAST, 0, 50);
        b.image(0, 0, 0, 2, 0);
        due(b.heat(0, 0, 0), 40);
        due(b.off(0, 0, 0), 4);
        due(b.stands(0, 0, 0, 0), 0);
    }

    static void promise37_ofColdGlassThatShrinks() {
        BlackSun b = small();
        b.glass(0, EAST, 9999, -99);
        b.image(0, 0, 0, 0, 0);
        // 91 degrees leave 990 thousandths, the first below a hair.
        due(b.heat(0, 0, 0), 91);
    }

    static void promise37_lightIsLeftAside() {
        BlackSun b = small();
        b.glass(0, EAST, 0, 50);
        b.image(0, 0, 0, 22, 0);
        b.image(1, 0, 0, 2, 0);
        due(b.heat(0, 0, 500), 40);
        due(b.heat(1, 0, 500), 40);
    }

    static void promise37_ofAHundredImages() {
        BlackSun b = crowd("fit light");
        b.glass(3, EAST, 0, 50);
        due(b.heat(15, 0, 475), 20);
    }

    static void promise37_asKnownInTheWeek() {
        BlackSun b = small();
        b.glass(0, EAST, 0, 50);
        b.clock(5);
        b.image(0, 0, 0, 1, 0);
        b.clock(6);
        b.image(0, 0, 0, 2, 0);
        due(b.heat(0, 4, 0), -1);
        due(b.heat(0, 5, 0), 20);
        due(b.heat(0, 6, 0), 40);
        due(b.heat(0, 9999, 0), 40);
    }

    static void promise37_withoutThese() {
        BlackSun b = small();
        b.image(0, 0, 0, 1, 1);
        for (int plate : NO_PLATES) {
            due("plate " + plate, b.heat(plate, 0, 0), -1);
        }
        for (int week : NO_WEEKS) {
            due("week " + week, b.heat(0, week, 0), -1);
        }
        for (int light : NO_NUMBERS) {
            due("light " + light, b.heat(0, 0, light), -1);
        }
        due(b.heat(0, 0, 99999), 0);
    }

    // ---- 38: again

    static void promise38_withoutAnyInCommon() {
        BlackSun b = small();
        b.image(0, 0, 0, 1, 1);
        b.image(0, 1, 1, 1, 1);
        b.image(1, 0, 1, 1, 1);
        int[] none = {0, 0, 0, 0, -1, -1};
        for (int what = 0; what < 6; what++) {
            due("what " + what, b.again(0, 1, 0, what), none[what]);
        }
    }

    static void promise38_theSecondLessTheFirst() {
        BlackSun b = small();
        b.image(0, 1, 0, 10, 3);
        b.image(0, 1, 7, 4, 5);
        int[] told = {1, -6, 2, 40, 0, 1};
        int[] turned = {1, 6, -2, 40, 0, 1};
        for (int what = 0; what < 6; what++) {
            due("what " + what, b.again(0, 7, 0, what), told[what]);
            due("what " + what, b.again(7, 0, 0, what), turned[what]);
        }
    }

    static void promise38_oneThatDidNotMoveIsOneToo() {
        BlackSun b = small();
        b.image(2, 1, 0, 5, 5);
        b.image(2, 1, 1, 5, 5);
        int[] told = {1, 0, 0, 0, 2, 1};
        for (int what = 0; what < 6; what++) {
            due("what " + what, b.again(0, 1, 0, what), told[what]);
        }
    }

    static void promise38_theFirstOfSeveralByPlates() {
        BlackSun b = small();
        for (int plate = 2; plate >= 0; plate--) {
            b.image(plate, 0, 0, 0, 0);
            b.image(plate, 0, 1, plate == 1 ? 3 : 0, plate == 1 ? 0 : -3);
        }
        due(b.again(0, 1, 0, 3), 9);
        due(b.again(0, 1, 0, 4), 0);
    }

    static void promise38_theFirstOfSeveralByPlatesThenByStars() {
        BlackSun b = small();
        b.image(1, 0, 0, 0, 0);
        b.image(1, 0, 1, 3, 0);
        b.image(0, 1, 0, 0, 0);
        b.image(0, 1, 1, 0, 3);
        due(b.again(0, 1, 0, 4), 0);
        due(b.again(0, 1, 0, 5), 1);
        b.image(0, 0, 0, 0, 0);
        b.image(0, 0, 1, 0, -3);
        due(b.again(0, 1, 0, 4), 0);
        due(b.again(0, 1, 0, 5), 0);
    }

    static void promise38_theFirstOfSeveralInWhateverOrderTheyWereTold() {
        int[][][] orders = {{{0, 0}, {0, 1}, {1, 0}}, {{0, 1}, {1, 0}, {2, 0}}, {{0, 1}, {1, 1}, {1, 0}},
            {{1, 0}, {0, 1}, {2, 0}}, {{2, 1}, {1, 0}, {1, 1}}, {{2, 0}, {0, 1}, {0, 0}}};
        int[] plates = {0, 0, 0, 0, 1, 0};
        int[] stars = {0, 1, 1, 1, 0, 0};
        for (int i = 0; i < orders.length; i++) {
            BlackSun b = small();
            for (int[] place : orders[i]) {
                b.image(place[0], place[1], 0, 0, 0);
                b.image(place[0], place[1], 1, 0, 3);
            }
            due("order " + i, b.again(0, 1, 0, 4), plates[i]);
            due("order " + i, b.again(0, 1, 0, 5), stars[i]);
        }
    }

    static void promise38_ofSeveralOnAPlateTheLeastStarWhateverHands() {
        BlackSun b = small();
        b.star(-3, 4, 0);
        for (int star = 2; star >= 1; star--) {
            b.image(2, star, 5, 0, 0);
            b.image(2, star, 6, 0, 3);
        }
        due(b.again(5, 6, 0, 4), 2);
        due(b.again(5, 6, 0, 5), 1);
        b.image(2, 0, 5, 0, 0);
        b.image(2, 0, 6, -3, 0);
        due(b.again(5, 6, 0, 4), 2);
        due(b.again(5, 6, 0, 5), 0);
        due(b.again(6, 5, 0, 5), 0);
    }

    static void promise38_aLesserMoveAheadOfTheGreatestIsNotIt() {
        BlackSun b = small();
        b.image(1, 1, 0, 0, 0);
        b.image(1, 1, 1, 3, 0);
        b.image(0, 0, 0, 0, 0);
        b.image(0, 0, 1, 2, 2);
        due(b.again(0, 1, 0, 3), 9);
        due(b.again(0, 1, 0, 4), 1);
        due(b.again(0, 1, 0, 5), 1);
    }

    static void promise38_ofAHundredImages() {
        BlackSun b = small();
        for (int i = 0; i < 98; i++) {
            b.image(1, 1, 7, i, 0);
        }
        b.image(1, 1, 0, 90, 0);
        b.image(0, 0, 0, 5, 0);
        due(b.again(0, 7, 0, 0), 1);
        due(b.again(0, 7, 0, 1), 7);
        due(b.again(0, 6, 0, 0), 0);
    }

    static void promise38_aGreaterMoveBehindTheFirst() {
        BlackSun b = small();
        b.image(0, 0, 0, 0, 0);
        b.image(0, 0, 1, 3, 0);
        b.image(2, 1, 0, 0, 0);
        b.image(2, 1, 1, 3, 1);
        due(b.again(0, 1, 0, 0), 2);
        due(b.again(0, 1, 0, 1), 6);
        due(b.again(0, 1, 0, 3), 10);
        due(b.again(0, 1, 0, 4), 2);
        due(b.again(0, 1, 0, 5), 1);
    }

    static void promise38_allDxAndAllDyTogether() {
        BlackSun b = small();
        b.image(0, 0, 0, 1, 2);
        b.image(0, 0, 1, 4, 7);
        b.image(1, 1, 0, 10, 20);
        b.image(1, 1, 1, 3, 9);
        b.image(2, 0, 0, 0, 0);
        b.image(2, 0, 1, -1, -2);
        due(b.again(0, 1, 0, 0), 3);
        due(b.again(0, 1, 0, 1), 3 - 7 - 1);
        due(b.again(0, 1, 0, 2), 5 - 11 - 2);
        due(b.again(0, 1, 0, 3), 49 + 121);
    }

    static void promise38_theGreatestMove() {
        BlackSun b = small();
        b.image(0, 0, 0, -299, 299);
        b.image(0, 0, 1, 299, -299);
        due(b.again(0, 1, 0, 1), 598);
        due(b.again(0, 1, 0, 2), -598);
        due(b.again(0, 1, 0, 3), 2 * 598 * 598);
    }

    static void promise38_asKnownInTheWeek() {
        BlackSun b = small();
        b.image(0, 0, 0, 0, 0);
        b.clock(5);
        b.image(0, 0, 1, 3, 0);
        b.clock(7);
        b.image(0, 0, 0, 1, 0);
        due(b.again(0, 1, 4, 0), 0);
        due(b.again(0, 1, 5, 1), 3);
        due(b.again(0, 1, 6, 1), 3);
        due(b.again(0, 1, 7, 1), 2);
    }

    static void promise38_twoHands() {
        BlackSun b = small();
        due(b.again(0, 0, 0, 0), NO_PLACE);
        due(b.again(7, 7, 0, 0), NO_PLACE);
        for (int hand : new int[] {-1, 8, LEAST, MOST}) {
            due("a " + hand, b.again(hand, 0, 0, 0), NO_PLACE);
            due("b " + hand, b.again(0, hand, 0, 0), NO_PLACE);
        }
        due(b.again(0, 7, 0, 0), 0);
    }

    static void promise38_anotherWeekOrWhatIsNone() {
        BlackSun b = small();
        for (int week : NO_WEEKS) {
            due("week " + week, b.again(0, 1, week, 0), NO_PLACE);
        }
        for (int what : new int[] {-1, 6, LEAST, MOST}) {
            due("what " + what, b.again(0, 1, 0, what), NO_PLACE);
        }
    }

    // ---- 39: mark

    static void promise39_itAnswersNow() {
        BlackSun b = new BlackSun();
        due(b.mark(0), 0);
        b.clock(9999);
        due(b.mark(0), 9999);
    }

    static void promise39_marksAre0To3() {
        BlackSun b = new BlackSun();
        due(b.mark(0), 0);
        due(b.mark(3), 0);
        for (int k : new int[] {-1, 4, LEAST, MOST}) {
            due("mark " + k, b.mark(k), -1);
        }
    }

    static void promise39_eachMarkByItself() {
        BlackSun b = new BlackSun();
        for (int k = 0; k < 4; k++) {
            b.star(1, 0, k);
            b.clock(k);
            due("mark " + k, b.mark(k), k);
        }
        for (int k = 3; k >= 0; k--) {
            due("back " + k, b.back(k), k);
            due("stars of mark " + k, b.count(1), k + 1);
        }
        due(b.back(3), 3);
        due(b.count(1), 4);
    }

    static void promise39_madeAnewItIsAsNow() {
        BlackSun b = new BlackSun();
        b.mark(1);
        b.star(1, 0, 0);
        b.clock(5);
        due(b.mark(1), 5);
        b.star(1, 0, 0);
        due(b.back(1), 5);
        due(b.count(1), 1);
    }

    static void promise39_itChangesNothing() {
        BlackSun b = full();
        b.mark(2);
        dueFull(b);
    }

    // ---- 40: back

    static void promise40_aMarkNeverMadeIsRefusedAndNothingHappens() {
        BlackSun b = full();
        b.mark(1);
        for (int k : new int[] {0, 2, 3}) {
            due("back " + k, b.back(k), -1);
        }
        dueFull(b);
    }

    static void promise40_withoutItNothingHappens() {
        BlackSun b = full();
        for (int k : new int[] {-1, 4, LEAST, MOST}) {
            due("back " + k, b.back(k), -1);
        }
        dueFull(b);
    }

    static void promise40_itAnswersTheMarksNow() {
        BlackSun b = new BlackSun();
        b.clock(3);
        b.mark(0);
        b.clock(9);
        due(b.back(0), 3);
        due(b.count(0), 3);
        due(b.clock(2), false);
        due(b.clock(4), true);
    }

    static void promise40_whatWasToldSinceIsGone() {
        BlackSun b = new BlackSun();
        b.mark(0);
        tellAll(b);
        b.end(0);
        due(b.back(0), 0);
        dueCounts(b, 0, 0, 0, 0, 0, 0, 0, 0);
        due(b.knows(1, 9999), 0);
        b.star(1, 0, 0);
        b.plate(0, 0, 10);
        due(b.stands(0, 0, 0, 0), 0);
        due(b.images(0, 0, 0, 9999, 0), -1000);
    }

    static void promise40_allIsAsItWas() {
        BlackSun b = full();
        b.mark(0);
        b.clock(50);
        b.star(7, 7, 7);
        b.plate(1, 1, 1);
        b.image(0, 0, 0, 99, 99);
        tape(b, "t");
        b.way();
        b.say(0, 0);
        b.field(2, 1);
        b.glass(0, EAST, -9000, 0);
        b.tell(1, 0);
        b.tell(2, 50);
        tape(b, "fit");
        due(b.back(0), 8);
        dueFull(b);
    }

    static void promise40_fromOneMarkToAnother() {
        BlackSun b = new BlackSun();
        b.mark(0);
        tellAll(b);
        b.plate(3, 1, 77);
        b.glass(3, NORTH, 100, 99);
        b.mark(1);
        b.back(0);
        tellOther(b);
        b.mark(2);
        due(b.back(1), 8);
        dueThis(b);
        due(b.back(2), 2);
        dueOther(b);
        due(b.back(1), 8);
        dueThis(b);
        due(b.back(0), 0);
        dueCounts(b, 0, 0, 0, 0, 0, 0, 0);
    }

    private static void dueThis(BlackSun b) {
        dueCounts(b, 8, 1, 2, 2, 1, 1, 1);
        due(b.stars(0, 0), 1);
        due(b.stars(0, 1), 0);
        due(b.stars(0, 2), 5);
        due(b.images(0, 0, 0, 7, 0), 20);
        due(b.images(0, 0, 0, 8, 0), 40);
        due(b.images(0, 0, 0, 8, 1), 7);
        due(b.images(0, 0, 3, 8, 0), -1000);
        due(b.ways(0, LIGHT), 1);
        due(b.ways(0, BEND), 0);
        due(b.could(0, 0, false), 1);
        due(b.planned(8, 0), 0);
        due(b.planned(9, 1), 1600);
        due(b.knows(1, 3), 1);
        due(b.knows(4, 9999), 0);
        due(b.stands(0, 0, 0, 0), 2);
        due(b.stands(1, 0, 0, 1), 7);
        due(b.stands(1, 0, 1000, 0), 0);
        due(b.usable(0, 8, 99), 0);
        due(b.usable(1, 8, 99), -1);
    }

    /** Other things at the numbers that tellAll gives. */
    private static void tellOther(BlackSun b) {
        b.star(-2, 3, 9);
        b.plate(1, 2, 50);
        b.plate(1, 0, 60);
        b.clock(2);
        b.image(0, 0, 3, -7, -8);
        b.image(1, 0, 3, 2, -3);
        b.end(0);
        way(b, "check bend;hand 3");
        b.say(0, 0);
        b.field(3, 0);
        b.glass(1, EAST, 1000, 0);
        b.tell(4, 1);
    }

    private static void dueOther(BlackSun b) {
        dueCounts(b, 2, 1, 2, 2, 1, 1, 1);
        due(b.stars(0, 0), -2);
        due(b.stars(0, 1), 3);
        due(b.stars(0, 2), 9);
        due(b.images(0, 0, 0, 9999, 0), -1000);
        due(b.images(0, 0, 3, 2, 0), -7);
        due(b.images(1, 0, 3, 2, 1), -3);
        due(b.images(1, 0, 3, 1, 1), -1000);
        due(b.ways(0, LIGHT), 0);
        due(b.ways(0, BEND), 3);
        due(b.could(0, 0, false), 1);
        due(b.planned(99, 0), 0);
        due(b.knows(1, 9999), 0);
        due(b.knows(4, 1), 1);
        due(b.stands(0, 0, 0, 0), 1);
        due(b.usable(0, 2, 99), -1);
        due(b.usable(1, 2, 9), 0);
        due(b.usable(1, 2, 10), 1);
    }

    static void promise40_eachImageIsOfItsStarAndItsWeekAgain() {
        BlackSun b = small();
        b.mark(0);
        b.image(0, 1, 0, 5, 6);
        b.mark(1);
        b.back(0);
        b.clock(4);
        b.image(2, 0, 7, 8, 9);
        b.mark(2);
        b.back(1);
        due(b.images(0, 1, 0, 0, 0), 5);
        due(b.images(0, 1, 0, 0, 1), 6);
        due(b.images(2, 0, 7, 9999, 0), -1000);
        b.back(2);
        due(b.images(2, 0, 7, 4, 0), 8);
        due(b.images(2, 0, 7, 4, 1), 9);
        due(b.images(2, 0, 7, 3, 0), -1000);
        due(b.images(0, 1, 0, 9999, 0), -1000);
    }

    static void promise40_whatWasSaidIsOfItsWayItsWeekAndItsNumberAgain() {
        BlackSun b = small("hold light 77", "hold light 5", "fit light");
        b.image(0, 0, 0, 20, 0);
        b.mark(0);
        b.say(1, 5);
        b.mark(1);
        b.back(0);
        b.clock(3);
        b.say(2, 500);
        b.clock(4);
        b.image(0, 0, 0, 40, 0);
        b.mark(2);
        b.back(1);
        due(b.could(0, 0, false), 1);
        due(b.could(0, 0, true), 1);
        b.back(2);
        due(b.could(0, 0, false), 1);
        due(b.could(0, 0, true), 0);
    }

    static void promise40_eachIslandsGlassIsAsItWas() {
        BlackSun b = small();
        b.star(2, 3, 0);
        for (int island = 0; island < 4; island++) {
            b.plate(island, 0, 50);
        }
        b.mark(0);
        for (int island = 0; island < 4; island++) {
            for (int term : new int[] {EAST, NORTH, SCALE, TURN, BEND}) {
                b.glass(island, term, 1000 * (1 + island), 0);
                b.mark(1);
                b.back(0);
                // Fifty degrees make as much of it.
                b.glass(island, term, 0, 20 * (1 + island));
                b.mark(2);
                b.back(0);
                String which = "island " + island + ", term " + term;
                for (int axis = 0; axis < 2; axis++) {
                    due(which + " at first", b.stands(3 + island, 2, 0, axis), 0);
                }
                for (int mark = 1; mark <= 2; mark++) {
                    b.back(mark);
                    for (int axis = 0; axis < 2; axis++) {
                        int due = (1 + island) * b.gives(term, 2, axis);
                        due(which + ", mark " + mark, b.stands(3 + island, 2, 0, axis), due);
                    }
                }
                b.back(0);
            }
        }
    }

    static void promise40_theTapeStays() {
        BlackSun b = new BlackSun();
        tape(b, "fit li");
        b.mark(0);
        tape(b, "ght");
        due(b.back(0), 0);
        due(b.count(7), 9);
        due(b.way(), 0);
        due(b.ways(0, LIGHT), 1);
        tape(b, "xyz");
        b.back(0);
        due(b.count(7), 3);
    }

    static void promise40_anImageToldAnewSinceCountsAgain() {
        BlackSun b = small();
        b.image(0, 0, 0, 1, 1);
        b.mark(0);
        b.clock(5);
        b.image(0, 0, 0, 2, 2);
        due(b.images(0, 0, 0, 5, 0), 2);
        b.back(0);
        due(b.images(0, 0, 0, 5, 0), 1);
        due(b.images(0, 0, 0, 9999, 0), 1);
    }

    static void promise40_numbersGoOnFromThere() {
        BlackSun b = full();
        b.mark(0);
        b.star(1, 1, 1);
        b.back(0);
        due(b.star(2, 2, 2), 2);
        due(b.stars(2, 0), 2);
        due(b.plate(0, 0, 0), 3);
        due(b.image(0, 0, 0, 5, 5), 2);
        due(b.say(0, 5), 1);
        due(b.field(5, 1), 1);
        b.end(0);
        due(way(b, "fit bend"), 1);
    }

    static void promise40_asOftenAsOneLikes() {
        BlackSun b = full();
        b.mark(0);
        for (int i = 0; i < 3; i++) {
            b.star(9, 9, 9);
            b.glass(0, EAST, 1000 * i, 0);
            due(b.back(0), 8);
            dueFull(b);
        }
    }

    static void promise40_otherMarksStay() {
        BlackSun b = new BlackSun();
        b.mark(0);
        b.star(1, 0, 0);
        b.mark(1);
        b.back(0);
        due(b.count(1), 0);
        due(b.back(1), 0);
        due(b.count(1), 1);
    }

    static void promise40_roomForThirtyStarsAgain() {
        BlackSun b = new BlackSun();
        b.mark(0);
        for (int i = 0; i < 31; i++) {
            b.star(1, 0, 0);
        }
        b.back(0);
        for (int i = 0; i < 30; i++) {
            due(b.star(1, 0, 0), i);
        }
        due(b.star(1, 0, 0), -1);
    }

    private static BlackSun full() {
        BlackSun b = small();
        tellAll(b);
        return b;
    }

    /** In week 8: two images of one place, a way, one said of it, a field, a glass, hand 1 that knows, a tape. */
    private static void tellAll(BlackSun b) {
        if (b.count(1) == 0) {
            b.star(1, 0, 5);
            b.plate(0, 0, 10);
        }
        b.image(0, 0, 0, 20, 0);
        b.clock(8);
        b.image(0, 0, 0, 40, 7);
        way(b, "fit light");
        b.say(0, 1000);
        b.field(9, 1);
        b.glass(0, EAST, 2000, 99);
        b.tell(1, 3);
        tape(b, "fi");
    }

    private static void dueFull(BlackSun b) {
        dueCounts(b, 8, 2, 3, 2, 1, 1, 1);
        due(b.stars(0, 2), 5);
        due(b.stars(1, 2), 50);
        due(b.stars(2, 2), -1000);
        due(b.images(0, 0, 0, 7, 0), 20);
        due(b.images(0, 0, 0, 8, 1), 7);
        due(b.images(0, 0, 0, 9999, 0), 40);
        due(b.ways(0, LIGHT), 1);
        due(b.ways(1, LIGHT), -1);
        due(b.could(0, 0, false), 1);
        due(b.could(1, 0, false), -1);
        due(b.planned(999, 2), 9);
        due(b.stands(0, 0, 0, 0), 2);
        due(b.stands(2, 0, 0, 0), 4);
        due(b.knows(1, 2), 0);
        due(b.knows(1, 3), 1);
        due(b.knows(2, 9999), 0);
    }

    // ---- 41: count

    static void promise41_eachWhat() {
        dueCounts(full(), 8, 2, 3, 2, 1, 1, 1, 2);
    }

    static void promise41_anotherWhatIsNone() {
        for (int what : new int[] {-1, 8, LEAST, MOST}) {
            due("what " + what, full().count(what), -1);
        }
    }

    static void promise41_allThatThereCanBe() {
        BlackSun b = new BlackSun();
        b.clock(9999);
        for (int i = 0; i < 100; i++) {
            b.star(1, 0, 0);
            b.plate(0, 0, 0);
            b.image(0, 0, 0, 0, 0);
        }
        for (int i = 0; i < 11; i++) {
            way(b, "fit light");
        }
        b.end(0);
        for (int i = 0; i < 41; i++) {
            b.say(0, 0);
            b.field(1, 0);
            b.feed(0, 0, 0, 0, 0);
        }
        dueCounts(b, 9999, 30, 16, 100, 10, 40, 9, 400);
    }

    static void promise41_theCallsLimitIsReachedWithoutHarm() {
        BlackSun b = new BlackSun();
        for (int i = 0; i < 510; i++) {
            b.clock(i);
        }
        due(b.clock(9999), true);
        due(b.count(0), 9999);
    }
}
