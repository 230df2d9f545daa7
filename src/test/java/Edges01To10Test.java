/** The edges of promises 1 to 10: a new object, weeks, stars, plates, images, what terms give, and the tape. */
public final class Edges01To10Test extends Bench {
    public static void main(String[] args) throws IllegalAccessException {
        runAll(Edges01To10Test.class);
    }

    // ---- 1: a new object

    static void promise01_nowIsZeroAtFirst() {
        due(new BlackSun().count(0), 0);
    }

    static void promise01_thereAreNoStarsAndNoPlates() {
        BlackSun b = new BlackSun();
        due(b.count(1), 0);
        due(b.count(2), 0);
        due(b.stars(0, 0), -1000);
        due(b.parter(0, 0), -1);
        due(b.image(0, 0, 0, 0, 0), -1);
    }

    static void promise01_nothingElseIsThere() {
        dueCounts(new BlackSun(), 0, 0, 0, 0, 0, 0, 0, 0);
    }

    static void promise01_noMarkIsMade() {
        for (int k = 0; k < 4; k++) {
            due(new BlackSun().back(k), -1);
        }
    }

    static void promise01_noHandKnows() {
        for (int hand = 0; hand < 8; hand++) {
            due(new BlackSun().knows(hand, 9999), 0);
        }
    }

    static void promise01_oneObjectHasNothingOfAnother() {
        BlackSun full = small("fit light");
        full.clock(9);
        full.image(0, 0, 0, 1, 1);
        full.say(0, 1);
        full.field(1, 1);
        full.tell(0, 0);
        full.glass(0, EAST, 5000, 0);
        full.mark(0);
        tape(full, "fit");
        BlackSun b = new BlackSun();
        dueCounts(b, 0, 0, 0, 0, 0, 0, 0, 0);
        due(b.knows(0, 0), 0);
        due(b.back(0), -1);
        b.star(1, 0, 0);
        b.plate(0, 0, 0);
        due(b.stands(0, 0, 0, 0), 0);
    }

    static void promise01_noneIsMinusOne() {
        due(BlackSun.NONE, -1);
    }

    // ---- 2: clock

    static void promise02_theFirstWeekIsZero() {
        BlackSun b = new BlackSun();
        due(b.clock(0), true);
        due(b.count(0), 0);
    }

    static void promise02_aWeekBelowZeroIsNone() {
        BlackSun b = new BlackSun();
        due(b.clock(-1), false);
        due(b.clock(LEAST), false);
        due(b.count(0), 0);
    }

    static void promise02_nowAgainIsFine() {
        BlackSun b = new BlackSun();
        due(b.clock(7), true);
        due(b.clock(7), true);
        due(b.count(0), 7);
    }

    static void promise02_theNextWeekIsFine() {
        BlackSun b = new BlackSun();
        b.clock(7);
        due(b.clock(8), true);
        due(b.count(0), 8);
    }

    static void promise02_aWeekBehindNowIsRefusedAndNothingHappens() {
        BlackSun b = new BlackSun();
        b.clock(7);
        due(b.clock(6), false);
        due(b.count(0), 7);
        due(b.clock(0), false);
        due(b.count(0), 7);
    }

    static void promise02_theLastWeekIs9999() {
        BlackSun b = new BlackSun();
        due(b.clock(9999), true);
        due(b.count(0), 9999);
        due(b.clock(9999), true);
        due(b.clock(9998), false);
    }

    static void promise02_aWeekAbove9999IsRefusedAndNothingHappens() {
        BlackSun b = new BlackSun();
        b.clock(3);
        due(b.clock(10000), false);
        due(b.clock(MOST), false);
        due(b.count(0), 3);
    }

    // ---- 3: star

    static void promise03_xGoesFromMinus9To9() {
        BlackSun b = new BlackSun();
        due(b.star(-9, 1, 0), 0);
        due(b.star(9, 1, 0), 1);
        due(b.stars(0, 0), -9);
        due(b.stars(1, 0), 9);
    }

    static void promise03_xBelowMinus9IsRefused() {
        due(new BlackSun().star(-10, 1, 0), -1);
        due(new BlackSun().star(LEAST, 1, 0), -1);
    }

    static void promise03_xAbove9IsRefused() {
        due(new BlackSun().star(10, 1, 0), -1);
        due(new BlackSun().star(MOST, 1, 0), -1);
    }

    static void promise03_yGoesFromMinus9To9() {
        BlackSun b = new BlackSun();
        due(b.star(1, -9, 0), 0);
        due(b.star(1, 9, 0), 1);
        due(b.stars(0, 1), -9);
        due(b.stars(1, 1), 9);
    }

    static void promise03_yBelowMinus9IsRefused() {
        due(new BlackSun().star(1, -10, 0), -1);
        due(new BlackSun().star(1, LEAST, 0), -1);
    }

    static void promise03_yAbove9IsRefused() {
        due(new BlackSun().star(1, 10, 0), -1);
        due(new BlackSun().star(1, MOST, 0), -1);
    }

    static void promise03_bothZeroIsTheSun() {
        due(new BlackSun().star(0, 0, 5), -1);
    }

    static void promise03_oneOfBothMayBeZero() {
        BlackSun b = new BlackSun();
        due(b.star(0, 1, 5), 0);
        due(b.star(1, 0, 5), 1);
        due(b.star(0, -1, 5), 2);
        due(b.star(-1, 0, 5), 3);
    }

    static void promise03_brightnessGoesFrom0To99() {
        BlackSun b = new BlackSun();
        due(b.star(1, 1, 0), 0);
        due(b.star(1, 1, 99), 1);
        due(b.stars(0, 2), 0);
        due(b.stars(1, 2), 99);
    }

    static void promise03_brightnessBelow0IsRefused() {
        due(new BlackSun().star(1, 1, -1), -1);
        due(new BlackSun().star(1, 1, LEAST), -1);
    }

    static void promise03_brightnessAbove99IsRefused() {
        due(new BlackSun().star(1, 1, 100), -1);
        due(new BlackSun().star(1, 1, MOST), -1);
    }

    static void promise03_aStarWhereOneIsIsOneMore() {
        BlackSun b = new BlackSun();
        due(b.star(3, 3, 3), 0);
        due(b.star(3, 3, 3), 1);
        due(b.count(1), 2);
    }

    static void promise03_thereAreThirtyAndNoMore() {
        BlackSun b = new BlackSun();
        for (int i = 0; i < 30; i++) {
            due(b.star(1 + i % 9, i / 9, i), i);
        }
        due(b.count(1), 30);
        due(b.star(5, 5, 5), -1);
        due(b.count(1), 30);
        due(b.stars(29, 2), 29);
        due(b.stars(30, 2), -1000);
    }

    static void promise03_aRefusedStarTakesNoNumber() {
        BlackSun b = new BlackSun();
        b.star(0, 0, 0);
        b.star(1, 0, 100);
        due(b.count(1), 0);
        due(b.star(1, 0, 0), 0);
    }

    // ---- 4: stars

    static void promise04_eachWhat() {
        BlackSun b = new BlackSun();
        b.star(-3, 4, 17);
        due(b.stars(0, 0), -3);
        due(b.stars(0, 1), 4);
        due(b.stars(0, 2), 17);
        due(b.stars(0, 3), 25);
    }

    static void promise04_rGoesFrom1To162() {
        BlackSun b = new BlackSun();
        b.star(0, -1, 0);
        b.star(-9, 9, 0);
        due(b.stars(0, 3), 1);
        due(b.stars(1, 3), 162);
    }

    static void promise04_anotherWhatIsNone() {
        BlackSun b = small();
        for (int what : new int[] {-1, 4, LEAST, MOST}) {
            due("what " + what, b.stars(0, what), -1000);
        }
    }

    static void promise04_withoutTheStar() {
        BlackSun b = small();
        due(b.stars(1, 0), 0);
        for (int k : new int[] {-1, 2, 30, LEAST, MOST}) {
            due("star " + k, b.stars(k, 0), -1000);
        }
    }

    // ---- 5: plate

    static void promise05_islandsAre0To3() {
        BlackSun b = new BlackSun();
        due(b.plate(0, 0, 0), 0);
        due(b.plate(3, 0, 0), 1);
    }

    static void promise05_anotherIslandIsRefused() {
        for (int island : new int[] {-1, 4, LEAST, MOST}) {
            due("island " + island, new BlackSun().plate(island, 0, 0), -1);
        }
    }

    static void promise05_kindsAre0To2() {
        BlackSun b = new BlackSun();
        due(b.plate(0, 0, 0), 0);
        due(b.plate(0, 1, 0), 1);
        due(b.plate(0, 2, 0), 2);
    }

    static void promise05_anotherKindIsRefused() {
        for (int kind : new int[] {-1, 3, LEAST, MOST}) {
            due("kind " + kind, new BlackSun().plate(0, kind, 0), -1);
        }
    }

    static void promise05_heatGoesFrom0To99() {
        BlackSun b = new BlackSun();
        due(b.plate(0, 0, 0), 0);
        due(b.plate(0, 0, 99), 1);
        b.star(1, 0, 0);
        b.glass(0, EAST, 0, 99);
        due(b.stands(0, 0, 0, 0), 0);
        due(b.stands(1, 0, 0, 0), 9);
    }

    static void promise05_anotherHeatIsRefused() {
        for (int heat : new int[] {-1, 100, LEAST, MOST}) {
            due("heat " + heat, new BlackSun().plate(0, 0, heat), -1);
        }
    }

    static void promise05_thereAreSixteenAndNoMore() {
        BlackSun b = new BlackSun();
        for (int i = 0; i < 16; i++) {
            due(b.plate(i % 4, i % 3, i), i);
        }
        due(b.plate(0, 0, 0), -1);
        due(b.count(2), 16);
        due(b.mixed(15, 0, 1), 1);
        due(b.mixed(16, 0, 1), -1);
    }

    static void promise05_aRefusedPlateTakesNoNumber() {
        BlackSun b = new BlackSun();
        b.plate(4, 0, 0);
        b.plate(0, 3, 0);
        b.plate(0, 0, 100);
        due(b.count(2), 0);
        due(b.plate(0, 0, 0), 0);
    }

    // ---- 6: image

    static void promise06_withoutThePlate() {
        for (int plate : new int[] {-1, 3, 16, LEAST, MOST}) {
            due("plate " + plate, small().image(plate, 0, 0, 0, 0), -1);
        }
    }

    static void promise06_withoutTheStar() {
        for (int star : new int[] {-1, 2, 30, LEAST, MOST}) {
            due("star " + star, small().image(0, star, 0, 0, 0), -1);
        }
    }

    static void promise06_handsAre0To7() {
        BlackSun b = small();
        due(b.image(0, 0, 0, 1, 0), 0);
        due(b.image(0, 0, 7, 2, 0), 1);
        due(b.images(0, 0, 0, 0, 0), 1);
        due(b.images(0, 0, 7, 0, 0), 2);
    }

    static void promise06_anotherHandIsRefused() {
        for (int hand : new int[] {-1, 8, LEAST, MOST}) {
            due("hand " + hand, small().image(0, 0, hand, 0, 0), -1);
        }
    }

    static void promise06_dxGoesFromMinus299To299() {
        BlackSun b = small();
        due(b.image(0, 0, 0, -299, 0), 0);
        due(b.image(0, 1, 0, 299, 0), 1);
        due(b.images(0, 0, 0, 0, 0), -299);
        due(b.images(0, 1, 0, 0, 0), 299);
    }

    static void promise06_anotherDxIsRefused() {
        for (int dx : new int[] {-300, 300, LEAST, MOST}) {
            due("dx " + dx, small().image(0, 0, 0, dx, 0), -1);
        }
    }

    static void promise06_dyGoesFromMinus299To299() {
        BlackSun b = small();
        due(b.image(0, 0, 0, 0, -299), 0);
        due(b.image(0, 1, 0, 0, 299), 1);
        due(b.images(0, 0, 0, 0, 1), -299);
        due(b.images(0, 1, 0, 0, 1), 299);
    }

    static void promise06_anotherDyIsRefused() {
        for (int dy : new int[] {-300, 300, LEAST, MOST}) {
            due("dy " + dy, small().image(0, 0, 0, 0, dy), -1);
        }
    }

    static void promise06_toldAnewIsOneMore() {
        BlackSun b = small();
        due(b.image(0, 0, 0, 1, 1), 0);
        due(b.image(0, 0, 0, 1, 1), 1);
        due(b.count(3), 2);
    }

    static void promise06_aRefusedImageTakesNoNumberAndPutsNoneOut() {
        BlackSun b = small();
        b.image(0, 0, 0, 5, 6);
        b.image(0, 0, 0, 300, 0);
        b.image(0, 0, 0, 0, 300);
        due(b.count(3), 1);
        due(b.images(0, 0, 0, 0, 0), 5);
        due(b.image(0, 1, 0, 0, 0), 1);
    }

    static void promise06_thereAreAHundredAndNoMore() {
        BlackSun b = small();
        for (int i = 0; i < 100; i++) {
            due(b.image(i % 3, i % 2, i % 8, i, -i), i);
        }
        due(b.image(0, 0, 0, 7, 7), -1);
        due(b.count(3), 100);
    }

    static void promise06_thoseToldAnewCountAmongTheHundred() {
        BlackSun b = small();
        for (int i = 0; i < 100; i++) {
            due(b.image(0, 0, 0, i, 0), i);
        }
        due(b.image(0, 1, 0, 7, 7), -1);
        due(b.images(0, 0, 0, 0, 0), 99);
    }

    static void promise06_theHundredAndFirstPutsNoneOut() {
        BlackSun b = small();
        for (int i = 0; i < 100; i++) {
            b.image(0, 0, 0, i, 0);
        }
        b.clock(1);
        due(b.image(0, 0, 0, 7, 7), -1);
        due(b.images(0, 0, 0, 1, 0), 99);
    }

    // ---- 7: images

    static void promise07_knownFromNowOn() {
        BlackSun b = small();
        b.clock(5);
        b.image(0, 0, 0, 20, 30);
        due(b.images(0, 0, 0, 4, 0), -1000);
        due(b.images(0, 0, 0, 0, 0), -1000);
        due(b.images(0, 0, 0, 5, 0), 20);
        due(b.images(0, 0, 0, 6, 0), 20);
        due(b.images(0, 0, 0, 9999, 1), 30);
    }

    static void promise07_oneToldAnewLaterCountsNoMoreFromThenOn() {
        BlackSun b = small();
        b.image(0, 0, 0, 20, 30);
        b.clock(5);
        b.image(0, 0, 0, 21, 31);
        due(b.images(0, 0, 0, 0, 0), 20);
        due(b.images(0, 0, 0, 4, 1), 30);
        due(b.images(0, 0, 0, 5, 0), 21);
        due(b.images(0, 0, 0, 9999, 1), 31);
    }

    static void promise07_oneToldAnewInItsWeekNeverCounts() {
        BlackSun b = small();
        b.clock(5);
        b.image(0, 0, 0, 20, 30);
        b.image(0, 0, 0, 21, 31);
        due(b.images(0, 0, 0, 5, 0), 21);
        due(b.images(0, 0, 0, 4, 0), -1000);
    }

    static void promise07_toldThreeTimes() {
        BlackSun b = small();
        b.image(0, 0, 0, 1, 0);
        b.clock(1);
        b.image(0, 0, 0, 2, 0);
        b.clock(2);
        b.image(0, 0, 0, 3, 0);
        due(b.images(0, 0, 0, 0, 0), 1);
        due(b.images(0, 0, 0, 1, 0), 2);
        due(b.images(0, 0, 0, 2, 0), 3);
    }

    static void promise07_theLastWeekIsOneToo() {
        BlackSun b = small();
        b.clock(9999);
        b.image(0, 0, 0, 1, 0);
        due(b.images(0, 0, 0, 9999, 0), 1);
        b.image(0, 0, 0, 2, 0);
        due(b.images(0, 0, 0, 9999, 0), 2);
        due(b.images(0, 0, 0, 9998, 0), -1000);
    }

    static void promise07_anotherWeekIsNone() {
        BlackSun b = small();
        b.image(0, 0, 0, 1, 1);
        for (int week : new int[] {-1, 10000, LEAST, MOST}) {
            due("week " + week, b.images(0, 0, 0, week, 0), -1000);
        }
    }

    static void promise07_anotherWhatIsNone() {
        BlackSun b = small();
        b.image(0, 0, 0, 1, 1);
        for (int what : new int[] {-1, 2, LEAST, MOST}) {
            due("what " + what, b.images(0, 0, 0, 0, what), -1000);
        }
    }

    static void promise07_withoutThePlateTheStarOrTheHand() {
        BlackSun b = small();
        b.image(0, 0, 0, 1, 1);
        for (int k : new int[] {-1, 30, LEAST, MOST}) {
            due("plate " + k, b.images(k, 0, 0, 0, 0), -1000);
            due("star " + k, b.images(0, k, 0, 0, 0), -1000);
            due("hand " + k, b.images(0, 0, k, 0, 0), -1000);
        }
        due(b.images(3, 0, 0, 0, 0), -1000);
        due(b.images(0, 2, 0, 0, 0), -1000);
        due(b.images(0, 0, 8, 0, 0), -1000);
    }

    static void promise07_anotherPlateStarOrHandHasNone() {
        BlackSun b = small();
        b.image(0, 0, 0, 1, 1);
        due(b.images(1, 0, 0, 0, 0), -1000);
        due(b.images(0, 1, 0, 0, 0), -1000);
        due(b.images(0, 0, 1, 0, 0), -1000);
    }

    static void promise07_anotherPlateStarOrHandPutsNoneOut() {
        BlackSun b = small();
        b.image(0, 0, 0, 1, 1);
        b.image(1, 0, 0, 2, 2);
        b.image(0, 1, 0, 3, 3);
        b.image(0, 0, 1, 4, 4);
        due(b.images(0, 0, 0, 0, 0), 1);
        due(b.images(1, 0, 0, 0, 0), 2);
        due(b.images(0, 1, 0, 0, 0), 3);
        due(b.images(0, 0, 1, 0, 0), 4);
    }

    static void promise07_ofAHundredImages() {
        BlackSun b = crowd("fit light");
        due(b.images(99 % 16, 99 % 30, 99 % 8, 0, 0), 20);
        due(b.images(99 % 16, 99 % 30, 99 % 8, 0, 1), 0);
        due(b.images(0, 29, 0, 0, 0), -1000);
    }

    // ---- 8: gives

    static void promise08_eachTerm() {
        BlackSun b = new BlackSun();
        b.star(-3, 4, 0);
        int[][] gives = {{1, 0}, {0, 1}, {-3, 4}, {-4, -3}, {-4, 6}, {-12, 0}};
        for (int term = 0; term < 6; term++) {
            due("term " + term, b.gives(term, 0, 0), gives[term][0]);
            due("term " + term, b.gives(term, 0, 1), gives[term][1]);
        }
    }

    static void promise08_lightIsCutTowardsZeroAboveIt() {
        BlackSun b = new BlackSun();
        b.star(3, 4, 0);
        due(b.gives(LIGHT, 0, 0), 4);
        due(b.gives(LIGHT, 0, 1), 6);
    }

    static void promise08_lightIsCutTowardsZeroBelowIt() {
        BlackSun b = new BlackSun();
        b.star(-3, -4, 0);
        due(b.gives(LIGHT, 0, 0), -4);
        due(b.gives(LIGHT, 0, 1), -6);
    }

    static void promise08_lightOfLessThanAHairIsZero() {
        BlackSun b = new BlackSun();
        b.star(1, 9, 0);
        b.star(-1, -9, 0);
        due(b.gives(LIGHT, 0, 0), 0);
        due(b.gives(LIGHT, 1, 0), 0);
        due(b.gives(LIGHT, 0, 1), 4);
        due(b.gives(LIGHT, 1, 1), -4);
    }

    static void promise08_theNearestAndTheFarthestStar() {
        BlackSun b = new BlackSun();
        b.star(0, -1, 0);
        b.star(9, -9, 0);
        due(b.gives(LIGHT, 0, 0), 0);
        due(b.gives(LIGHT, 0, 1), -40);
        due(b.gives(LIGHT, 1, 0), 2);
        due(b.gives(LIGHT, 1, 1), -2);
        due(b.gives(BEND, 1, 0), -81);
        due(b.gives(TURN, 1, 0), 9);
    }

    static void promise08_anotherTermIsNone() {
        for (int term : new int[] {-1, 6, LEAST, MOST}) {
            due("term " + term, small().gives(term, 0, 0), -1000);
        }
    }

    static void promise08_withoutTheStar() {
        for (int star : new int[] {-1, 2, 30, LEAST, MOST}) {
            due("star " + star, small().gives(0, star, 0), -1000);
        }
    }

    static void promise08_anotherAxisIsNone() {
        for (int axis : new int[] {-1, 2, LEAST, MOST}) {
            due("axis " + axis, small().gives(0, 0, axis), -1000);
        }
    }

    // ---- 9: feed

    static void promise09_twentyBytesEachTime() {
        BlackSun b = new BlackSun();
        for (int i = 1; i <= 20; i++) {
            due(b.feed(0, 0, 0, 0, 0), 20 * i);
        }
        due(b.count(7), 400);
    }

    static void promise09_ofEachNumberTheHighestByteComesFirst() {
        BlackSun b = new BlackSun();
        b.feed(0x66697420, 0x6c696768, 0x743b6669, 0x74207363, 0x616c6520);
        due(b.way(), 0);
        due(b.ways(0, LIGHT), 1);
        due(b.ways(0, SCALE), 1);
    }

    static void promise09_aByteAbove127IsItself() {
        // The byte 160 is no blank, and 230, 'f' with its highest bit, is no letter.
        faulty("fit\u00a0light", 3, 0);
        faulty("\u00e6it light", 0, 0);
        faulty("fit light\u00ff", 9, 0);
    }

    static void promise09_aTapeOf380BytesTakesTwentyMore() {
        BlackSun b = new BlackSun();
        for (int i = 0; i < 20; i++) {
            b.feed(0, 0, 0, 0, 0);
        }
        b.end(380);
        due(b.feed(0, 0, 0, 0, 0), 400);
    }

    static void promise09_aTapeOf381BytesTakesNoneAndNoneComes() {
        BlackSun b = new BlackSun();
        for (int i = 0; i < 20; i++) {
            b.feed(0, 0, 0, 0, 0);
        }
        b.end(381);
        due(b.feed(0, 0, 0, 0, 0), -1);
        due(b.count(7), 381);
    }

    static void promise09_aFullTapeStaysAsItIs() {
        BlackSun b = new BlackSun();
        tape(b, "fit light" + " ".repeat(391));
        due(b.count(7), 400);
        due(b.feed(0x78787878, 0x78787878, 0x78787878, 0x78787878, 0x78787878), -1);
        due(b.count(7), 400);
        due(b.way(), 0);
    }

    static void promise09_bytesComeBehindWhatTheTapeHas() {
        BlackSun b = new BlackSun();
        tape(b, "fit li");
        due(b.count(7), 6);
        due(b.feed(0x67687420, 0x20202020, 0x20202020, 0x20202020, 0x20202020), 26);
        due(b.way(), 0);
        due(b.ways(0, LIGHT), 1);
    }

    static void promise09_aTapeIsFullAgainAfterAWay() {
        BlackSun b = new BlackSun();
        for (int i = 0; i < 20; i++) {
            b.feed(0, 0, 0, 0, 0);
        }
        b.way();
        due(b.feed(0, 0, 0, 0, 0), 20);
    }

    // ---- 10: end

    static void promise10_allOfItIsFine() {
        BlackSun b = new BlackSun();
        b.feed(0, 0, 0, 0, 0);
        due(b.end(20), 20);
        due(b.count(7), 20);
    }

    static void promise10_oneMoreThanItHasIsRefusedAndNothingHappens() {
        BlackSun b = new BlackSun();
        b.feed(0, 0, 0, 0, 0);
        due(b.end(21), -1);
        due(b.end(400), -1);
        due(b.end(MOST), -1);
        due(b.count(7), 20);
    }

    static void promise10_belowZeroIsRefusedAndNothingHappens() {
        BlackSun b = new BlackSun();
        b.feed(0, 0, 0, 0, 0);
        due(b.end(-1), -1);
        due(b.end(LEAST), -1);
        due(b.count(7), 20);
    }

    static void promise10_ofAnEmptyTape() {
        BlackSun b = new BlackSun();
        due(b.end(0), 0);
        due(b.end(1), -1);
        due(b.count(7), 0);
    }

    static void promise10_noneOfIt() {
        BlackSun b = new BlackSun();
        b.feed(0, 0, 0, 0, 0);
        due(b.end(0), 0);
        due(b.count(7), 0);
    }

    static void promise10_whatIsCutOffIsGone() {
        BlackSun b = new BlackSun();
        tape(b, "fit lightxxx");
        due(b.end(9), 9);
        due(b.end(12), -1);
        due(b.way(), 0);
    }

    static void promise10_whatIsCutOffIsNotRead() {
        String[] texts = {"leave if x<=1", "hand 12", "fit lights", "fit light;fit", "fit         ", "hold bend   -5"};
        int[] cuts = {11, 6, 9, 9, 4, 10};
        int[] answers = {fault(11, 0), 0, 0, 0, fault(4, 0), fault(10, 0)};
        for (int i = 0; i < texts.length; i++) {
            BlackSun b = new BlackSun();
            tape(b, texts[i]);
            due(texts[i], b.end(cuts[i]), cuts[i]);
            due(texts[i], b.way(), answers[i]);
        }
    }

    static void promise10_whatWasReadBeforeIsNotReadAgain() {
        BlackSun b = new BlackSun();
        way(b, "hand 7;fit light;fit bend");
        due(way(b, "hand"), fault(4, 0));
        due(way(b, "hand 7;"), fault(7, 0));
    }

    static void promise10_ofAFullTape() {
        BlackSun b = new BlackSun();
        for (int i = 0; i < 20; i++) {
            b.feed(0, 0, 0, 0, 0);
        }
        due(b.end(400), 400);
        due(b.end(401), -1);
        due(b.end(399), 399);
    }
}
