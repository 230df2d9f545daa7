/** The edges of promises 19 to 26: scale and light on a plate, hands that know and lean, islands joined. */
public final class Edges19To26Test extends Bench {
    private static final int[] NO_WEEKS = {-1, 10000, LEAST, MOST};
    private static final int[] NO_WAYS = {-1, 1, 10, LEAST, MOST};
    private static final int[] NO_HANDS = {-1, 8, LEAST, MOST};
    private static final int[] NO_CHOICES = {-1, 2, LEAST, MOST};
    private static final int[] NO_PLATES = {-1, 3, 16, LEAST, MOST};
    private static final int[] NO_ISLANDS = {-1, 4, LEAST, MOST};
    private static final long NO_LEAN = -1000000000000L;

    public static void main(String[] args) throws IllegalAccessException {
        runAll(Edges19To26Test.class);
    }

    // ---- 19: mixed

    static void promise19_withoutImagesItIs0By1() {
        BlackSun b = small();
        due(b.mixed(0, 0, 0), 0);
        due(b.mixed(0, 0, 1), 1);
    }

    static void promise19_ofOneStarOnAnAxisItIs1By1() {
        BlackSun b = small();
        b.image(0, 1, 0, 3, 3);
        due(b.mixed(0, 0, 0), 1);
        due(b.mixed(0, 0, 1), 1);
    }

    static void promise19_ofOneStarWhoseLightIsCut() {
        BlackSun b = small();
        b.star(3, 4, 0);
        b.image(0, 2, 0, 3, 3);
        // (3 * 4 + 4 * 6) squared by 25 * 52.
        due(b.mixed(0, 0, 0), 324);
        due(b.mixed(0, 0, 1), 325);
    }

    static void promise19_inLowestTerms() {
        BlackSun b = small();
        b.image(0, 0, 0, 3, 3);
        b.image(0, 1, 0, 3, 3);
        // 80 squared by 5 * 2000.
        due(b.mixed(0, 0, 0), 16);
        due(b.mixed(0, 0, 1), 25);
    }

    static void promise19_aStarIsOneWhateverHandsThereAre() {
        BlackSun b = small();
        b.image(0, 0, 0, 3, 3);
        b.image(0, 0, 7, 3, 3);
        b.image(0, 0, 7, 4, 4);
        b.image(0, 1, 5, 3, 3);
        due(b.mixed(0, 0, 0), 16);
        due(b.mixed(0, 0, 1), 25);
    }

    static void promise19_asOnADarkPlateWhateverItsKind() {
        BlackSun b = small();
        for (int plate = 0; plate < 3; plate++) {
            b.image(plate, 0, 0, 3, 3);
            b.image(plate, 1, 0, 3, 3);
            due("plate " + plate, b.mixed(plate, 0, 0), 16);
            due("plate " + plate, b.mixed(plate, 0, 1), 25);
        }
    }

    static void promise19_imagesKnownByTheWeek() {
        BlackSun b = small();
        b.image(0, 0, 0, 3, 3);
        b.clock(5);
        b.image(0, 1, 0, 3, 3);
        due(b.mixed(0, 4, 0), 1);
        due(b.mixed(0, 5, 0), 16);
    }

    static void promise19_imagesOfOtherPlatesDoNotCount() {
        BlackSun b = small();
        b.image(1, 0, 0, 3, 3);
        due(b.mixed(0, 0, 0), 0);
    }

    static void promise19_allThirtyStars() {
        BlackSun b = new BlackSun();
        b.plate(0, 0, 0);
        for (int i = 0; i < 30; i++) {
            b.star(i < 15 ? 1 : 9, i < 15 ? 0 : 9, 0);
            b.image(0, i, 0, 3, 3);
        }
        // 15 * (40 + 36) squared by 15 * (1 + 162) times 15 * (1600 + 8).
        due(b.mixed(0, 0, 0), 722);
        due(b.mixed(0, 0, 1), 163 * 1608 / 8);
    }

    static void promise19_withoutThePlateTheWeekOrThePart() {
        BlackSun b = small();
        for (int plate : NO_PLATES) {
            due("plate " + plate, b.mixed(plate, 0, 0), -1);
        }
        for (int week : NO_WEEKS) {
            due("week " + week, b.mixed(0, week, 0), -1);
        }
        for (int part : NO_CHOICES) {
            due("part " + part, b.mixed(0, 0, part), -1);
        }
    }

    // ---- 20: parter

    static void promise20_theStarWithWhichItIsLeast() {
        BlackSun b = small();
        b.star(-9, 0, 0);
        b.star(3, 4, 0);
        b.image(0, 0, 0, 3, 3);
        due(b.parter(0, 0), 2);
        b.image(0, 2, 0, 3, 3);
        due(b.parter(0, 0), 3);
    }

    static void promise20_ofSeveralTheLeast() {
        BlackSun b = small();
        b.star(0, -9, 0);
        b.star(9, 0, 0);
        b.star(0, 9, 0);
        b.image(0, 0, 0, 3, 3);
        due(b.parter(0, 0), 2);
    }

    static void promise20_ofAnEmptyPlate() {
        BlackSun b = small();
        due(b.parter(0, 0), 0);
        b.star(3, 4, 0);
        due(b.parter(0, 0), 2);
    }

    static void promise20_thereIsNoneIfEachStarHasAnImage() {
        BlackSun b = small();
        b.image(0, 0, 0, 3, 3);
        due(b.parter(0, 0), 1);
        b.image(0, 1, 5, 3, 3);
        due(b.parter(0, 0), -1);
    }

    static void promise20_thereIsNoneWithoutStars() {
        BlackSun b = new BlackSun();
        b.plate(0, 0, 0);
        due(b.parter(0, 0), -1);
    }

    static void promise20_anImageKnownLaterIsNoneYet() {
        BlackSun b = small();
        b.image(0, 0, 0, 3, 3);
        b.clock(5);
        b.image(0, 1, 0, 3, 3);
        due(b.parter(0, 4), 1);
        due(b.parter(0, 5), -1);
    }

    static void promise20_whatStandsThereIsAsKnownInTheWeek() {
        BlackSun b = new BlackSun();
        b.plate(0, 0, 0);
        int[][] stars = {{1, 0}, {0, 1}, {9, 9}, {9, -9}, {-9, 9}};
        for (int[] star : stars) {
            b.star(star[0], star[1], 0);
        }
        b.clock(5);
        b.image(0, 0, 0, 3, 3);
        b.clock(6);
        b.image(0, 3, 0, 3, 3);
        b.image(0, 4, 0, 3, 3);
        // A far star parts best beside a near one, and a near star beside one near and two far ones.
        due(b.parter(0, 4), 0);
        due(b.parter(0, 5), 2);
        due(b.parter(0, 6), 1);
        due(b.parter(0, 9999), 1);
    }

    static void promise20_aStarIsOneWhateverHandsThereAre() {
        BlackSun b = new BlackSun();
        b.plate(0, 0, 0);
        b.star(1, 0, 0);
        b.star(5, 5, 0);
        b.star(5, 4, 0);
        // Beside two such near stars (5, 5) would part better.
        b.image(0, 0, 0, 3, 3);
        due(b.parter(0, 0), 2);
        b.image(0, 0, 7, 3, 3);
        b.image(0, 0, 7, 4, 4);
        due(b.parter(0, 0), 2);
    }

    static void promise20_anImageOnAnotherPlateIsNone() {
        BlackSun b = small();
        b.image(0, 0, 0, 3, 3);
        b.image(1, 1, 0, 3, 3);
        due(b.parter(0, 0), 1);
        due(b.parter(1, 0), 0);
    }

    static void promise20_ofAHundredImages() {
        BlackSun b = crowd("fit light");
        // Plate 0 has those of the images 0, 16, 32 and so on: stars 0, 16, 2, 18, 4, 20, 6.
        due(b.parter(0, 0), 1);
        due(b.mixed(0, 0, 0), 1);
    }

    static void promise20_theThirtiethStar() {
        BlackSun b = new BlackSun();
        b.plate(0, 2, 0);
        for (int i = 0; i < 29; i++) {
            b.star(1, 0, 0);
        }
        b.star(9, 9, 0);
        b.image(0, 0, 0, 1, 1);
        due(b.parter(0, 0), 29);
    }

    static void promise20_withoutThePlateOrTheWeek() {
        BlackSun b = small();
        for (int plate : NO_PLATES) {
            due("plate " + plate, b.parter(plate, 0), -1);
        }
        for (int week : NO_WEEKS) {
            due("week " + week, b.parter(0, week), -1);
        }
    }

    // ---- 21: usable

    static void promise21_withoutAnImageOnTheCheckPlate() {
        BlackSun b = small();
        due(b.usable(0, 0, 99), 0);
        b.image(0, 0, 0, 1, 1);
        b.image(1, 0, 0, 1, 1);
        due(b.usable(0, 0, 99), 0);
    }

    static void promise21_notMoreThanSoMuchFromItsOwnHeat() {
        BlackSun b = small();
        b.image(2, 0, 0, 1, 1);
        due(b.usable(0, 0, 19), 0);
        due(b.usable(0, 0, 20), 1);
        due(b.usable(0, 0, 21), 1);
        b.plate(0, 0, 50);
        due(b.usable(3, 0, 19), 0);
        due(b.usable(3, 0, 20), 1);
        b.plate(0, 0, 30);
        due(b.usable(4, 0, 0), 1);
    }

    static void promise21_knownByTheWeek() {
        BlackSun b = small();
        b.clock(5);
        b.image(2, 0, 0, 1, 1);
        due(b.usable(0, 4, 20), 0);
        due(b.usable(0, 5, 20), 1);
    }

    static void promise21_theCheckPlateMayBeTheFirst() {
        BlackSun b = new BlackSun();
        b.star(1, 0, 0);
        b.plate(0, 2, 0);
        b.plate(0, 0, 0);
        b.image(0, 0, 0, 1, 1);
        due(b.usable(1, 0, 0), 1);
    }

    static void promise21_ofSixteenPlates() {
        BlackSun b = crowd("fit light");
        due(b.usable(15, 0, 99), 0);
        due(b.usable(16, 0, 99), -1);
    }

    static void promise21_ofItsIslandAlone() {
        BlackSun b = small();
        b.image(2, 0, 0, 1, 1);
        b.plate(1, 0, 30);
        due(b.usable(3, 0, 99), 0);
        b.plate(1, 2, 99);
        b.image(4, 0, 0, 1, 1);
        due(b.usable(3, 0, 68), 0);
        due(b.usable(3, 0, 69), 1);
    }

    static void promise21_oneNearEnoughIsEnough() {
        BlackSun b = small();
        b.plate(0, 2, 99);
        b.plate(0, 2, 11);
        b.image(3, 0, 0, 1, 1);
        b.image(4, 0, 0, 1, 1);
        due(b.usable(0, 0, 1), 1);
        due(b.usable(0, 0, 0), 0);
    }

    static void promise21_aPlateThatIsNotDarkIsNone() {
        BlackSun b = small();
        b.image(2, 0, 0, 1, 1);
        due(b.usable(1, 0, 99), -1);
        due(b.usable(2, 0, 99), -1);
    }

    static void promise21_offGoesFrom0To99() {
        BlackSun b = new BlackSun();
        b.star(1, 0, 0);
        b.plate(0, 0, 0);
        b.plate(0, 2, 99);
        b.image(1, 0, 0, 1, 1);
        due(b.usable(0, 0, 98), 0);
        due(b.usable(0, 0, 99), 1);
        due(b.usable(0, 0, 0), 0);
        for (int off : new int[] {-1, 100, LEAST, MOST}) {
            due("off " + off, b.usable(0, 0, off), -1);
        }
    }

    static void promise21_withoutThePlateOrTheWeek() {
        BlackSun b = small();
        for (int plate : NO_PLATES) {
            due("plate " + plate, b.usable(plate, 0, 0), -1);
        }
        for (int week : NO_WEEKS) {
            due("week " + week, b.usable(0, week, 0), -1);
        }
    }

    // ---- 22: tell

    static void promise22_nowIsFine() {
        BlackSun b = new BlackSun();
        due(b.tell(0, 0), true);
        b.clock(5);
        due(b.tell(1, 5), true);
        due(b.knows(1, 5), 1);
    }

    static void promise22_earlierIsFine() {
        BlackSun b = new BlackSun();
        b.clock(5);
        due(b.tell(1, 0), true);
        due(b.knows(1, 0), 1);
    }

    static void promise22_laterThanNowIsRefusedAndNothingHappens() {
        BlackSun b = new BlackSun();
        b.clock(5);
        due(b.tell(1, 6), false);
        due(b.tell(1, 9999), false);
        due(b.tell(1, MOST), false);
        due(b.knows(1, 9999), 0);
    }

    static void promise22_aWeekBelowZeroIsRefusedAndNothingHappens() {
        BlackSun b = new BlackSun();
        due(b.tell(1, -1), false);
        due(b.tell(1, LEAST), false);
        due(b.knows(1, 9999), 0);
    }

    static void promise22_handsAre0To7() {
        BlackSun b = new BlackSun();
        due(b.tell(0, 0), true);
        due(b.tell(7, 0), true);
        for (int hand : NO_HANDS) {
            due("hand " + hand, b.tell(hand, 0), false);
        }
        for (int hand = 1; hand < 7; hand++) {
            due("hand " + hand, b.knows(hand, 0), 0);
        }
    }

    static void promise22_ofSeveralToldTheLeast() {
        BlackSun b = new BlackSun();
        b.clock(9);
        due(b.tell(1, 5), true);
        due(b.tell(1, 7), true);
        due(b.knows(1, 5), 1);
        due(b.tell(1, 4), true);
        due(b.knows(1, 4), 1);
        due(b.knows(1, 3), 0);
    }

    // ---- 23: knows

    static void promise23_fromTheWeekOn() {
        BlackSun b = new BlackSun();
        b.clock(9);
        b.tell(1, 5);
        due(b.knows(1, 0), 0);
        due(b.knows(1, 4), 0);
        due(b.knows(1, 5), 1);
        due(b.knows(1, 6), 1);
        due(b.knows(1, 9999), 1);
    }

    static void promise23_theLastWeekOfAll() {
        BlackSun b = new BlackSun();
        b.clock(9999);
        b.tell(1, 9999);
        due(b.knows(1, 9998), 0);
        due(b.knows(1, 9999), 1);
        due(b.knows(2, 9999), 0);
    }

    static void promise23_eachHandByItself() {
        BlackSun b = new BlackSun();
        b.tell(1, 0);
        due(b.knows(0, 0), 0);
        due(b.knows(2, 0), 0);
    }

    static void promise23_withoutTheHandOrTheWeek() {
        BlackSun b = new BlackSun();
        b.tell(0, 0);
        for (int hand : NO_HANDS) {
            due("hand " + hand, b.knows(hand, 0), -1);
        }
        for (int week : NO_WEEKS) {
            due("week " + week, b.knows(0, week), -1);
        }
        due(b.knows(7, 9999), 0);
    }

    // ---- 24: leans

    static void promise24_withoutAnySuchItIs0By1() {
        BlackSun b = small();
        for (int what = 0; what < 2; what++) {
            due(b.leans(0, 0, what, 0), 0);
            due(b.leans(0, 0, what, 1), 1);
        }
        b.image(0, 0, 0, 5, 5);
        due(b.leans(0, 0, 0, 0), 0);
        due(b.leans(0, 0, 0, 1), 1);
        b.image(0, 1, 1, 5, 5);
        b.image(1, 0, 1, 5, 5);
        due(b.leans(0, 0, 0, 0), 0);
        due(b.leans(0, 0, 0, 1), 1);
    }

    static void promise24_noDifferenceIs0By1() {
        BlackSun b = small();
        b.image(0, 0, 0, 5, 5);
        b.image(0, 0, 1, 4, 5);
        b.image(0, 0, 2, 6, 5);
        b.image(0, 0, 3, 5, 5);
        due(b.leans(0, 0, 0, 0), 0);
        due(b.leans(0, 0, 0, 1), 1);
    }

    static void promise24_aHandThatKnowsIsNoOther() {
        BlackSun b = small();
        b.image(0, 0, 0, 5, 5);
        b.image(0, 0, 1, 4, 5);
        b.tell(1, 0);
        due(b.leans(0, 0, 0, 0), 0);
        due(b.leans(0, 0, 0, 1), 1);
        due(b.leans(1, 0, 0, 0), -1);
    }

    static void promise24_oneThatKnowsLaterIsAnotherYet() {
        BlackSun b = small();
        b.image(0, 0, 0, 5, 5);
        b.image(0, 0, 1, 2, 5);
        b.clock(5);
        b.tell(1, 5);
        due(b.leans(0, 4, 0, 0), 3);
        due(b.leans(0, 5, 0, 0), 0);
    }

    static void promise24_theMeanOfAllOthersInLowestTerms() {
        BlackSun b = small();
        b.image(0, 0, 0, 5, 5);
        for (int hand = 1; hand < 8; hand++) {
            b.image(0, 0, hand, hand == 7 ? 1 : 0, 0);
        }
        due(b.leans(0, 0, 0, 0), 34);
        due(b.leans(0, 0, 0, 1), 7);
    }

    static void promise24_theMeanOverPlacesIsOfEachPlaceOnce() {
        BlackSun b = small();
        b.image(0, 0, 0, 6, 0);
        b.image(0, 0, 1, 0, 0);
        b.image(0, 0, 2, 0, 0);
        b.image(0, 1, 0, 1, 0);
        b.image(0, 1, 1, 0, 0);
        due(b.leans(0, 0, 0, 0), 7);
        due(b.leans(0, 0, 0, 1), 2);
    }

    static void promise24_belowTheLineIsAboveZero() {
        BlackSun b = small();
        b.image(0, 0, 0, -5, 0);
        b.image(0, 0, 1, 0, 0);
        b.image(0, 0, 2, 1, 0);
        due(b.leans(0, 0, 0, 0), -11);
        due(b.leans(0, 0, 0, 1), 2);
    }

    static void promise24_outwards() {
        BlackSun b = small();
        b.star(-3, 4, 0);
        b.image(0, 2, 0, -6, 8);
        b.image(0, 2, 1, 1, 1);
        due(b.leans(0, 0, 1, 0), 18 + 32 - 1);
        due(b.leans(0, 0, 0, 0), -7);
    }

    static void promise24_onPlatesOfEachKindAndNeverTurned() {
        BlackSun b = small();
        for (int plate = 0; plate < 3; plate++) {
            b.image(plate, 0, 0, 1 + plate, 0);
            b.image(plate, 0, 1, 0, 0);
        }
        due(b.leans(0, 0, 0, 0), 2);
        due(b.leans(0, 0, 0, 1), 1);
    }

    static void promise24_asKnownInTheWeek() {
        BlackSun b = small();
        b.image(0, 0, 0, 5, 0);
        b.clock(5);
        b.image(0, 0, 1, 0, 0);
        b.clock(6);
        b.image(0, 0, 1, 1, 0);
        due(b.leans(0, 4, 0, 0), 0);
        due(b.leans(0, 5, 0, 0), 5);
        due(b.leans(0, 6, 0, 0), 4);
    }

    static void promise24_itsOwnImageIsAsKnownInTheWeek() {
        BlackSun b = small();
        b.image(0, 0, 1, 2, 0);
        b.clock(5);
        b.image(0, 0, 0, 5, 0);
        b.clock(6);
        b.image(0, 0, 0, 9, 0);
        due(b.leans(0, 4, 0, 0), 0);
        due(b.leans(0, 4, 0, 1), 1);
        due(b.leans(0, 5, 0, 0), 3);
        due(b.leans(0, 6, 0, 0), 7);
        due(b.leans(0, 9999, 0, 0), 7);
    }

    static void promise24_imagesOfAnotherStarOrPlateAreNotOfThePlace() {
        BlackSun b = small();
        b.image(0, 0, 0, 5, 0);
        b.image(0, 1, 1, 1, 0);
        b.image(1, 0, 1, 2, 0);
        due(b.leans(0, 0, 0, 0), 0);
        due(b.leans(0, 0, 0, 1), 1);
        b.image(0, 0, 1, 4, 0);
        due(b.leans(0, 0, 0, 0), 1);
        due(b.leans(0, 0, 0, 1), 1);
    }

    static void promise24_theGreatestLean() {
        BlackSun b = new BlackSun();
        b.plate(0, 0, 0);
        b.star(9, -9, 0);
        b.image(0, 0, 0, 299, -299);
        b.image(0, 0, 7, -299, 299);
        due(b.leans(0, 0, 1, 0), 4 * 9 * 299);
        due(b.leans(7, 0, 1, 0), -4 * 9 * 299);
        due(b.leans(7, 0, 1, 1), 1);
    }

    static void promise24_ofAHundredImages() {
        BlackSun b = small();
        for (int i = 0; i < 84; i++) {
            b.image(1, 1, 7, i, 0);
        }
        for (int i = 0; i < 16; i++) {
            due(b.image(0, i / 8, i % 8, i % 8 == 0 ? 10 : 3, 0), 84 + i);
        }
        due(b.leans(0, 0, 0, 0), 7);
        due(b.leans(0, 0, 0, 1), 1);
        due(b.leans(7, 0, 0, 0), -1);
    }

    static void promise24_withoutThese() {
        BlackSun b = small();
        for (int hand : NO_HANDS) {
            due("hand " + hand, b.leans(hand, 0, 0, 0), NO_LEAN);
        }
        for (int week : NO_WEEKS) {
            due("week " + week, b.leans(0, week, 0, 0), NO_LEAN);
        }
        for (int choice : NO_CHOICES) {
            due("what " + choice, b.leans(0, 0, choice, 0), NO_LEAN);
            due("part " + choice, b.leans(0, 0, 0, choice), NO_LEAN);
        }
        due(b.leans(7, 9999, 1, 1), 1);
    }

    // ---- 25: joined

    /** Island 0 has one image, of 500, island 1 two, of 1012; both dark. */
    private static BlackSun joint() {
        BlackSun b = new BlackSun();
        b.star(1, 0, 0);
        b.star(-1, 0, 0);
        b.plate(0, 0, 0);
        b.plate(1, 0, 0);
        b.plate(1, 1, 0);
        way(b, "fit light");
        b.image(0, 0, 0, 20, 0);
        b.image(1, 0, 0, 41, 0);
        b.image(1, 1, 0, -40, 0);
        return b;
    }

    static void promise25_downwardsAboveZero() {
        BlackSun b = joint();
        // 500 + 2 * 1012 are 2524, by 3.
        due(b.joined(0, 0, 0, 1), 841);
        due(b.joined(0, 0, 1, 0), 841);
    }

    static void promise25_downwardsBelowZero() {
        BlackSun b = joint();
        b.image(0, 0, 0, -20, 0);
        b.image(1, 0, 0, -40, 0);
        b.image(1, 1, 0, 40, 0);
        // -500 - 2 * 1000 are -2500, by 3.
        due(b.joined(0, 0, 0, 1), -834);
    }

    static void promise25_oneOfBothWithoutAnAnswer() {
        BlackSun b = joint();
        due(b.joined(0, 0, 0, 2), NO_ANSWER);
        due(b.joined(0, 0, 2, 0), NO_ANSWER);
        due(b.joined(0, 0, 2, 3), NO_ANSWER);
    }

    static void promise25_severalNumbersAreNoAnswer() {
        BlackSun b = joint();
        way(b, "fit light;fit bend");
        due(b.joined(1, 0, 0, 1), NO_ANSWER);
    }

    static void promise25_imagesByNightAreTakenToo() {
        BlackSun b = joint();
        b.image(2, 0, 0, 0, 0);
        due(b.joined(0, 0, 0, 1), (500 + 3 * 1012) / 4);
    }

    static void promise25_onlyImagesThatAreTakenCount() {
        BlackSun b = joint();
        way(b, "fit light;leave if x<0");
        // 500 and 1025.
        due(b.joined(1, 0, 0, 1), 762);
    }

    static void promise25_checksOfAllIslandsStay() {
        BlackSun b = joint();
        b.plate(3, 2, 0);
        way(b, "fit light;check scale");
        due(b.joined(1, 0, 0, 1), NO_ANSWER);
        b.image(3, 0, 0, 4, 0);
        // 16 by 40, and 37 and 36 by 40.
        due(b.joined(1, 0, 0, 1), (400 + 2 * 912) / 3);
    }

    static void promise25_lightThatIsNotFittedIsAsItIs() {
        BlackSun b = joint();
        way(b, "hold light 77");
        due(b.joined(1, 0, 0, 1), 77);
    }

    static void promise25_ofSixteenPlatesAndAHundredImages() {
        BlackSun b = crowd("fit light");
        due(b.joined(0, 0, 0, 3), 500);
        due(b.joined(9, 0, 2, 1), 500);
    }

    static void promise25_asKnownInTheWeek() {
        BlackSun b = joint();
        b.clock(5);
        b.image(0, 0, 0, 40, 0);
        b.plate(2, 0, 0);
        b.image(3, 0, 0, 80, 0);
        due(b.joined(0, 4, 0, 1), 841);
        due(b.joined(0, 5, 0, 1), (1000 + 2 * 1012) / 3);
        due(b.joined(0, 4, 0, 2), NO_ANSWER);
        due(b.joined(0, 5, 0, 2), 1500);
        due(b.joined(0, 9999, 0, 2), 1500);
    }

    static void promise25_twoIslands() {
        BlackSun b = joint();
        due(b.joined(0, 0, 0, 0), NOT_THERE);
        due(b.joined(0, 0, 3, 3), NOT_THERE);
        for (int island : NO_ISLANDS) {
            due("a " + island, b.joined(0, 0, island, 1), NOT_THERE);
            due("b " + island, b.joined(0, 0, 1, island), NOT_THERE);
        }
    }

    static void promise25_withoutTheWayOrTheWeek() {
        BlackSun b = joint();
        for (int way : NO_WAYS) {
            due("way " + way, b.joined(way, 0, 0, 1), NOT_THERE);
        }
        for (int week : NO_WEEKS) {
            due("week " + week, b.joined(0, week, 0, 1), NOT_THERE);
        }
    }

    // ---- 26: quarrel

    static void promise26_moreThanSoMuchApart() {
        BlackSun b = joint();
        due(b.quarrel(0, 0, 0, 1, 511), 1);
        due(b.quarrel(0, 0, 0, 1, 512), 0);
        due(b.quarrel(0, 0, 1, 0, 511), 1);
        due(b.quarrel(0, 0, 1, 0, 512), 0);
    }

    static void promise26_theSameAnswersDoNot() {
        BlackSun b = joint();
        way(b, "hold light 77");
        due(b.quarrel(1, 0, 0, 1, 0), 0);
    }

    static void promise26_notIfOneHasNoAnswer() {
        BlackSun b = joint();
        due(b.quarrel(0, 0, 0, 2, 0), 0);
        due(b.quarrel(0, 0, 2, 0, 0), 0);
        due(b.quarrel(0, 0, 2, 3, 0), 0);
    }

    static void promise26_notWithoutCheckImages() {
        BlackSun b = joint();
        way(b, "fit light;check scale");
        due(b.quarrel(1, 0, 0, 1, 0), 0);
    }

    static void promise26_offGoesFrom0To99999() {
        BlackSun b = joint();
        due(b.quarrel(0, 0, 0, 1, 0), 1);
        due(b.quarrel(0, 0, 0, 1, 99999), 0);
        for (int off : new int[] {-1, 100000, LEAST, MOST}) {
            due("off " + off, b.quarrel(0, 0, 0, 1, off), -1);
        }
    }

    static void promise26_twoIslands() {
        BlackSun b = joint();
        due(b.quarrel(0, 0, 1, 1, 0), -1);
        for (int island : NO_ISLANDS) {
            due("a " + island, b.quarrel(0, 0, island, 1, 0), -1);
            due("b " + island, b.quarrel(0, 0, 1, island, 0), -1);
        }
    }

    static void promise26_withoutTheWayOrTheWeek() {
        BlackSun b = joint();
        for (int way : NO_WAYS) {
            due("way " + way, b.quarrel(way, 0, 0, 1, 0), -1);
        }
        for (int week : NO_WEEKS) {
            due("week " + week, b.quarrel(0, week, 0, 1, 0), -1);
        }
    }

    static void promise26_asKnownInTheWeek() {
        BlackSun b = joint();
        b.clock(5);
        b.image(0, 0, 0, 40, 0);
        due(b.quarrel(0, 4, 0, 1, 100), 1);
        due(b.quarrel(0, 5, 0, 1, 100), 0);
    }
}
