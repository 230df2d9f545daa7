/** The edges of promises 27 to 33: what was said and could be, fields, worlds, the span, and what ways name. */
public final class Edges27To33Test extends Bench {
    private static final int[] NO_WEEKS = {-1, 10000, LEAST, MOST};
    private static final int[] NO_WAYS = {-1, 1, 10, LEAST, MOST};
    private static final int[] NO_NUMBERS = {-1, 100000, LEAST, MOST};

    public static void main(String[] args) throws IllegalAccessException {
        runAll(Edges27To33Test.class);
    }

    // ---- 27: say

    static void promise27_thereAreFortyAndNoMore() {
        BlackSun b = small("fit light");
        for (int i = 0; i < 40; i++) {
            due(b.say(0, i), i);
        }
        due(b.say(0, 0), -1);
        due(b.count(5), 40);
        due(b.could(39, 0, false), 0);
        due(b.could(40, 0, false), -1);
    }

    static void promise27_numbersGoFromMinus99999To99999() {
        BlackSun b = small("fit light");
        due(b.say(0, -99999), 0);
        due(b.say(0, 99999), 1);
    }

    static void promise27_anotherNumberIsRefused() {
        BlackSun b = small("fit light");
        for (int number : new int[] {-100000, 100000, LEAST, MOST}) {
            due("number " + number, b.say(0, number), -1);
        }
        due(b.count(5), 0);
    }

    static void promise27_withoutTheWay() {
        BlackSun b = small("fit light");
        for (int way : NO_WAYS) {
            due("way " + way, b.say(way, 0), -1);
        }
        due(b.count(5), 0);
        due(new BlackSun().say(0, 0), -1);
    }

    static void promise27_aWayWithoutAnAnswerIsFine() {
        due(small("fit light").say(0, 500), 0);
    }

    static void promise27_theSameAgainIsOneMore() {
        BlackSun b = small("fit light");
        due(b.say(0, 500), 0);
        due(b.say(0, 500), 1);
    }

    // ---- 28: could

    static void promise28_notMoreThanSoMuchFromIt() {
        BlackSun b = small("fit light");
        b.image(0, 0, 0, 20, 0);
        b.say(0, 490);
        b.say(0, 510);
        for (int said = 0; said < 2; said++) {
            due("said " + said, b.could(said, 9, false), 0);
            due("said " + said, b.could(said, 10, false), 1);
        }
    }

    static void promise28_exactlyIt() {
        BlackSun b = small("fit light");
        b.image(0, 0, 0, 20, 0);
        b.say(0, 500);
        b.say(0, 499);
        due(b.could(0, 0, false), 1);
        due(b.could(1, 0, false), 0);
    }

    static void promise28_withoutAnAnswerItCouldNot() {
        BlackSun b = small("fit light", "fit light;check scale");
        b.say(0, -99999);
        b.say(1, -99999);
        due(b.could(0, 99999, false), 0);
        due(b.could(0, 99999, true), 0);
        b.image(0, 0, 0, 20, 0);
        due(b.could(1, 99999, false), 0);
    }

    static void promise28_inItsWeekByWhatWasKnownThen() {
        BlackSun b = small("fit light");
        b.image(0, 0, 0, 20, 0);
        b.clock(5);
        b.say(0, 500);
        b.clock(6);
        b.image(0, 0, 0, 40, 0);
        due(b.could(0, 0, false), 1);
        due(b.could(0, 0, true), 0);
        due(b.could(0, 499, true), 0);
        due(b.could(0, 500, true), 1);
    }

    static void promise28_whatIsToldInItsWeekBehindItWasKnownInThatWeek() {
        BlackSun b = small("fit light");
        b.clock(5);
        b.say(0, 500);
        b.image(0, 0, 0, 20, 0);
        due(b.could(0, 0, false), 1);
    }

    static void promise28_laterInItsOwnWeekIsTheSame() {
        BlackSun b = small("fit light");
        b.image(0, 0, 0, 20, 0);
        b.say(0, 500);
        due(b.could(0, 0, true), 1);
    }

    static void promise28_eachByItsWay() {
        BlackSun b = small("fit light", "hold light 77", "fit east");
        b.image(0, 0, 0, 20, 0);
        b.say(1, 77);
        b.say(2, 0);
        b.say(0, 500);
        due(b.could(0, 0, false), 1);
        due(b.could(1, 0, false), 1);
        due(b.could(2, 0, false), 1);
    }

    static void promise28_offGoesFrom0To99999() {
        BlackSun b = small("fit light", "fit light;hold east -99999");
        b.image(0, 0, 0, -40, 0);
        b.say(0, 98999);
        b.say(0, 99000);
        due(b.could(0, 99999, false), 1);
        due(b.could(1, 99999, false), 0);
        due(b.could(0, 0, false), 0);
        for (int off : NO_NUMBERS) {
            due("off " + off, b.could(0, off, false), -1);
        }
    }

    static void promise28_withoutWhatWasSaid() {
        BlackSun b = small("fit light");
        b.say(0, 0);
        for (int said : new int[] {-1, 1, 40, LEAST, MOST}) {
            due("said " + said, b.could(said, 0, false), -1);
            due("said " + said, b.could(said, 0, true), -1);
        }
    }

    // ---- 29: field

    static void promise29_minutesGoFrom1To99() {
        BlackSun b = small();
        due(b.field(1, 1), 0);
        due(b.field(99, 1), 1);
        for (int minutes : new int[] {0, -1, 100, LEAST, MOST}) {
            due("minutes " + minutes, b.field(minutes, 1), -1);
        }
        due(b.count(6), 2);
    }

    static void promise29_starsThatAreThere() {
        BlackSun b = small();
        due(b.field(1, 3), 0);
        due(b.field(1, 4), -1);
        due(b.field(1, 7), -1);
        due(b.field(1, 1 << 30), -1);
        due(b.field(1, LEAST), -1);
        due(b.field(1, -1), -1);
        due(b.field(1, MOST), -1);
        due(b.count(6), 1);
        b.star(3, 3, 3);
        due(b.field(1, 7), 1);
    }

    static void promise29_allThirtyStars() {
        BlackSun b = new BlackSun();
        for (int i = 0; i < 30; i++) {
            b.star(1, 0, 0);
        }
        due(b.field(1, (1 << 30) - 1), 0);
        due(b.field(1, 1 << 29), 1);
        due(b.field(1, 1 << 30), -1);
        due(b.field(1, LEAST), -1);
        due(b.planned(1, 1), 30 * 1600);
    }

    static void promise29_withoutStarsAnywhere() {
        BlackSun b = new BlackSun();
        due(b.field(1, 1), -1);
        due(b.field(1, 0), 0);
    }

    static void promise29_thereAreNineAndNoMore() {
        BlackSun b = small();
        for (int i = 0; i < 9; i++) {
            due(b.field(1 + i, 1), i);
        }
        due(b.field(1, 1), -1);
        due(b.count(6), 9);
    }

    // ---- 30: planned

    static void promise30_withoutFieldsItIsTheEmptySet() {
        BlackSun b = small();
        for (int what = 0; what < 3; what++) {
            due("what " + what, b.planned(999, what), 0);
        }
    }

    static void promise30_notAboveTheseMinutes() {
        BlackSun b = small();
        b.field(5, 1);
        b.field(3, 2);
        due(b.planned(2, 0), 0);
        due(b.planned(3, 0), 2);
        due(b.planned(4, 0), 2);
        due(b.planned(5, 0), 1);
        due(b.planned(7, 0), 1);
        due(b.planned(8, 0), 3);
    }

    static void promise30_theGreatestSumOverStarsOfSomeOfThem() {
        BlackSun b = small();
        b.star(3, 4, 0);
        b.field(5, 1 | 2);
        b.field(5, 1 | 4);
        due(b.planned(10, 1), 1600 + 400 + 16 + 36);
        due(b.planned(9, 1), 2000);
        due(b.planned(9, 0), 1);
        due(b.planned(10, 2), 10);
    }

    static void promise30_ofSeveralTheFewestMinutes() {
        BlackSun b = small();
        b.field(9, 3);
        b.field(5, 1);
        b.field(3, 2);
        due(b.planned(99, 0), 2 | 4);
        due(b.planned(99, 2), 8);
    }

    static void promise30_aFieldThatAddsNothingIsNotIn() {
        BlackSun b = small();
        b.field(1, 0);
        b.field(1, 1);
        b.field(2, 1);
        due(b.planned(99, 0), 2);
        due(b.planned(99, 2), 1);
    }

    static void promise30_ofAsManyMinutesTheLeastNumber() {
        BlackSun b = small();
        b.field(3, 2);
        b.field(5, 1);
        b.field(8, 3);
        due(b.planned(8, 0), 3);
        BlackSun c = small();
        c.field(8, 3);
        c.field(5, 1);
        c.field(3, 2);
        due(c.planned(8, 0), 1);
        BlackSun d = small();
        d.field(4, 1);
        d.field(4, 1);
        due(d.planned(99, 0), 1);
    }

    static void promise30_allNine() {
        BlackSun b = new BlackSun();
        for (int i = 0; i < 9; i++) {
            b.star(1, 0, 0);
            b.field(99, 1 << i);
        }
        due(b.planned(999, 0), 511);
        due(b.planned(999, 1), 9 * 1600);
        due(b.planned(999, 2), 891);
        due(b.planned(890, 0), 255);
    }

    static void promise30_minutesGoFrom1To999() {
        BlackSun b = small();
        b.field(1, 1);
        due(b.planned(1, 0), 1);
        due(b.planned(999, 0), 1);
        for (int minutes : new int[] {0, -1, 1000, LEAST, MOST}) {
            due("minutes " + minutes, b.planned(minutes, 0), -1);
        }
    }

    static void promise30_anotherWhatIsNone() {
        for (int what : new int[] {-1, 3, LEAST, MOST}) {
            due("what " + what, small().planned(5, what), -1);
        }
    }

    // ---- 31: right

    static void promise31_withoutSlipsAllAreRight() {
        BlackSun b = small("fit light");
        b.image(0, 0, 0, 0, 0);
        due(b.right(0, 1, 500, 0, 1, 0), 1);
        due(b.right(0, 1, 500, 0, 50, 0), 50);
    }

    static void promise31_notMoreThanSoMuchFromTheLaw() {
        BlackSun b = small("fit light");
        b.image(0, 0, 0, 0, 0);
        // 499 thousandths of 40 are 19 hairs, which are 475.
        due(b.right(0, 1, 499, 0, 3, 23), 0);
        due(b.right(0, 1, 499, 0, 3, 24), 3);
    }

    static void promise31_lightIsCutTowardsZeroBelowItToo() {
        BlackSun b = small("fit light");
        b.star(-1, 0, 0);
        b.image(0, 2, 0, 0, 0);
        due(b.right(0, 1, 499, 0, 3, 23), 0);
        due(b.right(0, 1, 499, 0, 3, 24), 3);
    }

    static void promise31_withoutAnAnswerNoneIsRight() {
        BlackSun b = small("fit light", "fit light;check scale", "fit light;fit scale");
        due(b.right(0, 1, 0, 0, 50, 99999), 0);
        b.image(0, 0, 0, 0, 0);
        due(b.right(1, 1, 0, 0, 50, 99999), 0);
        due(b.right(2, 1, 0, 0, 50, 99999), 0);
    }

    static void promise31_lightThatIsNotFittedIsAsItIs() {
        BlackSun b = small("hold light 500", "fit east");
        due(b.right(0, 1, 500, 9, 50, 0), 0);
        b.image(0, 0, 0, 0, 0);
        due(b.right(0, 1, 500, 9, 50, 0), 50);
        due(b.right(0, 1, 510, 9, 50, 9), 0);
        due(b.right(0, 1, 510, 9, 50, 10), 50);
        due(b.right(1, 1, 7, 9, 50, 7), 50);
    }

    static void promise31_nightPlatesHaveNoLight() {
        BlackSun b = small("fit light;fit east");
        b.image(0, 0, 0, 0, 0);
        b.image(1, 0, 0, 99, 99);
        due(b.right(0, 1, 1000, 0, 5, 0), 5);
    }

    static void promise31_slipsGoInXThenInYByNumbersAndTheSeedGoesOn() {
        BlackSun b = small("fit light");
        b.star(3, -4, 0);
        b.image(0, 2, 0, 0, 0);
        b.image(0, 1, 0, 0, 0);
        // Light gives 4, -6 and 0, 20.
        for (int n : new int[] {1, 2, 7, 50}) {
            long x0 = 12345;
            int near = 0;
            for (int world = 0; world < n; world++) {
                int[] slip = new int[4];
                for (int i = 0; i < 4; i++) {
                    x0 = next(x0);
                    slip[i] = slipOf(x0, 5);
                }
                long above = 4 * (4 + slip[0]) - 6 * (-6 + slip[1]) + 20 * (20 + slip[3]);
                near += Math.abs(Math.floorDiv(1000 * above, 452L) - 1000) <= 100 ? 1 : 0;
            }
            due("n " + n, b.right(0, 12345, 1000, 5, n, 100), near);
        }
    }

    static void promise31_slipsByNightAreTurnedInSign() {
        BlackSun b = small("fit light;fit east");
        b.image(0, 0, 0, 0, 0);
        b.image(1, 0, 0, 0, 0);
        for (int seed = 0; seed < 40; seed++) {
            long x0 = next(seed);
            int dark = slipOf(x0, 9);
            int night = slipOf(next(next(x0)), 9);
            int light = Math.floorDiv(1000 * (40 + dark + night), 40);
            due("seed " + seed, b.right(0, seed, 1010, 9, 1, 99), Math.abs(light - 1010) <= 99 ? 1 : 0);
        }
    }

    static void promise31_theGreatestSlip() {
        BlackSun b = small("fit light");
        b.image(0, 0, 0, 0, 0);
        for (int seed = 0; seed < 100; seed++) {
            int light = Math.floorDiv(1000 * (40 + slipOf(next(seed), 99)), 40);
            due("seed " + seed, b.right(0, seed, 1024, 99, 1, 1500), Math.abs(light - 1024) <= 1500 ? 1 : 0);
        }
    }

    static void promise31_aSlipIsPutToWhatLightGives() {
        BlackSun b = small("fit light");
        b.image(0, 0, 0, 0, 0);
        for (int seed = 0; seed < 20; seed++) {
            // 1024 thousandths of 40 are 40 hairs, so that a slip and its contrary are not as near to the law.
            int off = Math.abs(Math.floorDiv(1000 * (40 + slipOf(next(seed), 9)), 40) - 1024);
            due("seed " + seed, b.right(0, seed, 1024, 9, 1, off), 1);
            due("seed " + seed, b.right(0, seed, 1024, 9, 1, off - 1), 0);
        }
    }

    static void promise31_withThreeFittedTerms() {
        BlackSun b = small("fit light;fit east;fit north");
        b.image(0, 0, 0, 0, 0);
        b.image(0, 1, 0, 0, 0);
        due(b.right(0, 1, 1000, 0, 50, 0), 50);
    }

    static void promise31_ofAHundredImages() {
        BlackSun b = crowd("fit light");
        due(b.right(0, 1, 1000, 0, 50, 0), 50);
        long x0 = 77;
        int all = 0;
        for (int image = 0; image < 100; image++) {
            x0 = next(x0);
            all += slipOf(x0, 99);
            x0 = next(x0);
        }
        int off = Math.abs(Math.floorDiv(1000 * (4000 + all), 4000) - 1024);
        due(b.right(0, 77, 1024, 99, 1, off), 1);
        due(b.right(0, 77, 1024, 99, 1, off - 1), 0);
    }

    static void promise31_seedsGoFrom0To2147483647() {
        BlackSun b = small("fit light");
        b.image(0, 0, 0, 0, 0);
        for (int seed : new int[] {0, 1, 2147483646, 2147483647}) {
            int light = Math.floorDiv(1000 * (40 + slipOf(next(seed), 50)), 40);
            int off = Math.abs(light - 1000);
            due("seed " + seed, b.right(0, seed, 1000, 50, 1, off), 1);
            due("seed " + seed, off == 0 || b.right(0, seed, 1000, 50, 1, off - 1) == 0, true);
        }
        due(b.right(0, -1, 1000, 0, 1, 0), -1);
        due(b.right(0, LEAST, 1000, 0, 1, 0), -1);
    }

    static void promise31_lawsGoFrom0To9999() {
        BlackSun b = small("fit light");
        b.image(0, 0, 0, 0, 0);
        due(b.right(0, 1, 0, 0, 5, 0), 5);
        due(b.right(0, 1, 9999, 0, 5, 23), 0);
        due(b.right(0, 1, 9999, 0, 5, 24), 5);
        for (int law : new int[] {-1, 10000, LEAST, MOST}) {
            due("law " + law, b.right(0, 1, law, 0, 5, 0), -1);
        }
    }

    static void promise31_slipsGoFrom0To99() {
        BlackSun b = small("fit light");
        b.image(0, 0, 0, 0, 0);
        due(b.right(0, 1, 1000, 99, 5, 99999), 5);
        for (int slip : new int[] {-1, 100, LEAST, MOST}) {
            due("slip " + slip, b.right(0, 1, 1000, slip, 5, 99999), -1);
        }
    }

    static void promise31_worldsGoFrom1To50() {
        BlackSun b = small("fit light");
        b.image(0, 0, 0, 0, 0);
        due(b.right(0, 1, 1000, 0, 1, 0), 1);
        due(b.right(0, 1, 1000, 0, 50, 0), 50);
        for (int n : new int[] {0, -1, 51, LEAST, MOST}) {
            due("n " + n, b.right(0, 1, 1000, 0, n, 0), -1);
        }
    }

    static void promise31_offGoesFrom0To99999() {
        BlackSun b = small("fit light");
        b.image(0, 0, 0, 0, 0);
        due(b.right(0, 1, 1000, 0, 5, 0), 5);
        due(b.right(0, 1, 1000, 0, 5, 99999), 5);
        for (int off : NO_NUMBERS) {
            due("off " + off, b.right(0, 1, 1000, 0, 5, off), -1);
        }
    }

    static void promise31_withoutTheWay() {
        for (int way : NO_WAYS) {
            due("way " + way, small("fit light").right(way, 1, 0, 0, 1, 0), -1);
        }
    }

    static void promise31_leavesAskWhatWasMeasured() {
        BlackSun b = small("fit light;leave if dx=0", "fit light;leave if dx=20");
        b.image(0, 0, 0, 0, 0);
        due(b.right(0, 1, 500, 0, 5, 99999), 0);
        due(b.right(1, 1, 500, 0, 5, 0), 5);
    }

    static void promise31_checksAreAsTheyAre() {
        BlackSun b = small("fit light;check east");
        b.image(0, 0, 0, 0, 0);
        b.image(2, 0, 0, 4, 0);
        // 20 hairs less 4 are 400.
        due(b.right(0, 1, 510, 0, 5, 109), 0);
        due(b.right(0, 1, 510, 0, 5, 110), 5);
    }

    static void promise31_whatTheWayTakesNow() {
        BlackSun b = small("fit light");
        b.image(0, 0, 0, 7, 7);
        b.clock(5);
        b.image(0, 0, 0, 8, 8);
        b.image(0, 1, 0, 8, 8);
        // Two images take four slips, so that the second world begins with the fifth.
        long x0 = 3;
        int near = 0;
        for (int world = 0; world < 9; world++) {
            int inX = slipOf(x0 = next(x0), 9);
            x0 = next(next(x0));
            int inY = slipOf(x0 = next(x0), 9);
            int light = Math.floorDiv(40 * (40 + inX) + 20 * (20 + inY), 2);
            near += Math.abs(light - 1000) <= 120 ? 1 : 0;
        }
        due(b.right(0, 3, 1000, 9, 9, 120), near);
        due(near > 0 && near < 9, true);
    }

    private static long next(long x0) {
        return (x0 * 1103515245L + 12345L) % 2147483648L;
    }

    private static int slipOf(long x0, int slip) {
        return (int) (x0 / 65536 % (2 * slip + 1)) - slip;
    }

    // ---- 32: span

    static void promise32_withNothingLeftOut() {
        BlackSun b = small("fit light");
        b.image(0, 0, 0, 20, 0);
        due(b.span(0, 0, 0), 500);
        due(b.span(0, 0, 1), 500);
    }

    static void promise32_anyOneStarLeftOut() {
        BlackSun b = small("fit light");
        b.image(0, 0, 0, 20, 0);
        b.image(0, 1, 0, 0, 20);
        due(b.span(0, 0, 0), 500);
        due(b.span(0, 0, 1), 1000);
    }

    static void promise32_anyOnePlateLeftOut() {
        BlackSun b = small("fit light");
        b.plate(0, 0, 0);
        b.image(0, 0, 0, 20, 0);
        b.image(3, 0, 0, 40, 0);
        due(b.span(0, 0, 0), 500);
        due(b.span(0, 0, 1), 1000);
    }

    static void promise32_withNothingLeftOutItMayBeTheOnlyOne() {
        BlackSun b = small("fit light;fit scale");
        b.image(0, 0, 0, 20, 0);
        b.image(0, 1, 0, 0, 20);
        due(b.span(0, 0, 0), 333);
        due(b.span(0, 0, 1), 333);
    }

    static void promise32_thoseWithoutAnAnswerDoNotCount() {
        BlackSun b = small("fit light");
        b.image(0, 0, 0, -20, 0);
        due(b.span(0, 0, 0), -500);
        due(b.span(0, 0, 1), -500);
    }

    static void promise32_noneHasAnAnswer() {
        BlackSun b = small("fit light", "fit light;check scale");
        due(b.span(0, 0, 0), NO_ANSWER);
        due(b.span(0, 0, 1), NO_ANSWER);
        b.image(0, 0, 0, 20, 0);
        due(b.span(1, 0, 0), NO_ANSWER);
    }

    static void promise32_notTwoLeftOutAtOnce() {
        BlackSun b = small("fit light");
        b.star(-1, 0, 0);
        b.image(0, 0, 0, 20, 0);
        b.image(0, 1, 0, 0, 20);
        b.image(0, 2, 0, -80, 0);
        // All: 4400 by 3600; without star 0: 3600 by 2000; without 1: 4000 by 3200; without 2: 1200 by 2000.
        due(b.span(0, 0, 0), 600);
        due(b.span(0, 0, 1), 1800);
    }

    static void promise32_noCheckIsLeftOut() {
        BlackSun b = small("fit light;check east");
        b.image(0, 0, 0, 20, 0);
        b.image(2, 1, 0, 4, 0);
        due(b.span(0, 0, 0), 400);
        due(b.span(0, 0, 1), 400);
    }

    static void promise32_lightThatIsNotFittedIsAsItIs() {
        BlackSun b = small("hold light 77", "fit east");
        due(b.span(0, 0, 0), NO_ANSWER);
        b.image(0, 0, 0, 20, 0);
        due(b.span(0, 0, 0), 77);
        due(b.span(1, 0, 1), 0);
    }

    static void promise32_theLastStarAndTheLastPlate() {
        BlackSun b = new BlackSun();
        for (int i = 0; i < 30; i++) {
            b.star(1, 0, 0);
        }
        for (int i = 0; i < 16; i++) {
            b.plate(0, 0, 0);
        }
        way(b, "fit light;leave if plate=15");
        way(b, "fit light;leave if star=29");
        b.image(0, 0, 0, 20, 0);
        b.image(0, 29, 0, 40, 0);
        b.image(15, 0, 0, 80, 0);
        due(b.span(0, 0, 0), 500);
        due(b.span(0, 0, 1), 1000);
        due(b.span(1, 0, 0), 500);
        due(b.span(1, 0, 1), 2000);
    }

    static void promise32_ofAHundredImages() {
        BlackSun b = crowd("fit light");
        due(b.span(0, 0, 0), 500);
        due(b.span(9, 0, 1), 500);
    }

    static void promise32_asKnownInTheWeek() {
        BlackSun b = small("fit light");
        b.clock(5);
        b.image(0, 0, 0, 20, 0);
        b.clock(6);
        b.image(0, 1, 0, 0, 40);
        due(b.span(0, 4, 1), NO_ANSWER);
        due(b.span(0, 5, 1), 500);
        due(b.span(0, 6, 1), 2000);
        due(b.span(0, 9999, 0), 500);
    }

    static void promise32_withNothingLeftOutItMayHaveNone() {
        BlackSun b = new BlackSun();
        int[][] all = {{6, -9, 288, -125}, {-7, 8, -298, -71}, {-9, 6, 287, -27}, {1, 1, 299, -299}};
        b.plate(0, 0, 0);
        b.plate(0, 2, 0);
        for (int i = 0; i < 4; i++) {
            b.star(all[i][0], all[i][1], 0);
            b.image(i / 3, i, 0, all[i][2], all[i][3]);
        }
        way(b, "fit east;fit scale;fit bend;check north;check turn;check light");
        due(b.answer(0, LIGHT, 0), NO_ANSWER);
        due(b.each(0, 0, 1, 0), 0);
        due(b.each(0, 0, 1, 1), NO_ANSWER);
        due(b.span(0, 0, 0), 0);
        due(b.span(0, 0, 1), 0);
    }

    static void promise32_withoutThese() {
        BlackSun b = small("fit light");
        b.image(0, 0, 0, 20, 0);
        for (int way : NO_WAYS) {
            due("way " + way, b.span(way, 0, 0), NOT_THERE);
        }
        for (int week : NO_WEEKS) {
            due("week " + week, b.span(0, week, 0), NOT_THERE);
        }
        for (int what : new int[] {-1, 2, LEAST, MOST}) {
            due("what " + what, b.span(0, 0, what), NOT_THERE);
        }
    }

    // ---- 33: named

    static void promise33_withoutWaysNoneNamesAny() {
        for (int k = 0; k < 4; k++) {
            due("k " + k, small().named(0, 1, 2, 3, k), 0);
        }
    }

    static void promise33_howManyNameEach() {
        BlackSun b = small("fit light", "fit light;hold east 20000", "hold light 9", "check scale");
        b.image(0, 0, 0, 20, 0);
        due(b.named(0, 500, 0, 250, 0), 2);
        due(b.named(0, 500, 0, 250, 1), 1);
        due(b.named(0, 500, 0, 250, 2), 0);
        due(b.named(0, 500, 0, 250, 3), 1);
    }

    static void promise33_withoutAnAnswerAWayNamesNone() {
        BlackSun b = small("fit light", "hold light 9");
        due(b.named(0, 500, 0, 250, 0), 0);
        due(b.named(0, 500, 0, 250, 3), 2);
    }

    static void promise33_ofSeveralTheFirst() {
        BlackSun b = small("fit light");
        b.image(0, 0, 0, 20, 0);
        due(b.named(0, 7, 7, 7, 0), 1);
        due(b.named(0, 7, 7, 7, 1), 0);
        due(b.named(0, 7, 7, 7, 2), 0);
    }

    static void promise33_allTenWays() {
        BlackSun b = small();
        b.image(0, 0, 0, 20, 0);
        for (int i = 0; i < 10; i++) {
            way(b, i < 4 ? "fit light" : "fit light;hold east 20000");
        }
        due(b.named(0, 500, 0, 250, 0), 4);
        due(b.named(0, 500, 0, 250, 1), 6);
    }

    static void promise33_asKnownInTheWeek() {
        BlackSun b = small("fit light");
        b.clock(5);
        b.image(0, 0, 0, 20, 0);
        due(b.named(4, 500, 0, 250, 3), 1);
        due(b.named(5, 500, 0, 250, 3), 0);
        due(b.named(5, 500, 0, 250, 0), 1);
    }

    static void promise33_numbersGoFrom0To99999() {
        BlackSun b = small("fit light");
        b.image(0, 0, 0, 20, 0);
        due(b.named(0, 99999, 99999, 0, 2), 1);
        for (int number : NO_NUMBERS) {
            due("a " + number, b.named(0, number, 0, 0, 0), -1);
            due("b " + number, b.named(0, 0, number, 0, 0), -1);
            due("c " + number, b.named(0, 0, 0, number, 0), -1);
        }
    }

    static void promise33_anotherKOrWeekIsNone() {
        BlackSun b = small("fit light");
        for (int k : new int[] {-1, 4, LEAST, MOST}) {
            due("k " + k, b.named(0, 0, 0, 0, k), -1);
        }
        for (int week : NO_WEEKS) {
            due("week " + week, b.named(week, 0, 0, 0, 0), -1);
        }
    }
}
