/** For each promise of the document ordinary, edge and wrong inputs in one run; the edges one by one are in Edges*Test. */
public final class PromisesTest extends Bench {
    private static final int NO = NO_ANSWER;
    private static int checked = 0;
    private static int wrong = 0;
    private static int promise = 0;

    static void due(String what, long got, long want) {
        checked++;
        if (got != want) {
            wrong++;
            System.out.println("promise " + promise + ": " + what + " answered " + got + ", due is " + want);
        }
    }

    static void due(String what, boolean got, boolean want) {
        due(what, got ? 1 : 0, want ? 1 : 0);
    }

    static void faulty(String text, int place, int why) {
        due("way() of '" + text + "'", way(new BlackSun(), text), fault(place, why));
    }

    static void fine(String text) {
        due("way() of '" + text + "'", way(new BlackSun(), text), 0);
    }

    public static void main(String[] args) {
        object();
        tellings();
        tapes();
        languageFaults();
        languageLimits();
        tests();
        takings();
        answers();
        misses();
        leavings();
        rulings();
        threes();
        mixes();
        hands();
        islands();
        sayings();
        fields();
        worlds();
        glasses();
        marks();
        System.out.println(wrong == 0 ? checked + " answers are as due" : wrong + " answers are not as due");
        if (wrong != 0) {
            System.exit(1);
        }
    }

    private static void object() {
        promise = 1;
        BlackSun b = new BlackSun();
        for (int what = 0; what <= 7; what++) {
            due("count(" + what + ")", b.count(what), 0);
        }
        due("NONE", BlackSun.NONE, -1);
        promise = 41;
        due("count(8)", b.count(8), -1);
        due("count(-1)", b.count(-1), -1);
        promise = 2;
        due("clock(-1)", b.clock(-1), false);
        due("clock(0)", b.clock(0), true);
        due("clock(7)", b.clock(7), true);
        due("clock(7)", b.clock(7), true);
        due("clock(6)", b.clock(6), false);
        due("clock(10000)", b.clock(10000), false);
        due("count(0)", b.count(0), 7);
        due("clock(9999)", b.clock(9999), true);
        due("count(0)", b.count(0), 9999);
    }

    private static void tellings() {
        promise = 3;
        BlackSun b = new BlackSun();
        due("star at the sun", b.star(0, 0, 1), -1);
        due("star x -10", b.star(-10, 0, 1), -1);
        due("star x 10", b.star(10, 1, 1), -1);
        due("star y 10", b.star(0, 10, 1), -1);
        due("star y -10", b.star(1, -10, 1), -1);
        due("star bright -1", b.star(1, 1, -1), -1);
        due("star bright 100", b.star(1, 1, 100), -1);
        due("star", b.star(-9, 9, 99), 0);
        due("star where one is", b.star(-9, 9, 0), 1);
        promise = 4;
        due("x", b.stars(0, 0), -9);
        due("y", b.stars(0, 1), 9);
        due("bright", b.stars(0, 2), 99);
        due("r", b.stars(0, 3), 162);
        due("what 4", b.stars(0, 4), -1000);
        due("what -1", b.stars(0, -1), -1000);
        due("star 2", b.stars(2, 0), -1000);
        due("star -1", b.stars(-1, 0), -1000);
        promise = 3;
        for (int i = 2; i < 30; i++) {
            due("star", b.star(1, i % 10, i), i);
        }
        due("the 31st star", b.star(1, 1, 1), -1);
        due("count(1)", b.count(1), 30);
        promise = 5;
        due("island -1", b.plate(-1, 0, 0), -1);
        due("island 4", b.plate(4, 0, 0), -1);
        due("kind -1", b.plate(0, -1, 0), -1);
        due("kind 3", b.plate(0, 3, 0), -1);
        due("heat -1", b.plate(0, 0, -1), -1);
        due("heat 100", b.plate(0, 0, 100), -1);
        for (int i = 0; i < 16; i++) {
            due("plate", b.plate(i % 4, i % 3, i), i);
        }
        due("the 17th plate", b.plate(0, 0, 0), -1);
        due("count(2)", b.count(2), 16);
        promise = 8;
        BlackSun g = new BlackSun();
        g.star(-3, 4, 0);
        g.star(1, 9, 0);
        int[][] gives = {{1, 0}, {0, 1}, {-3, 4}, {-4, -3}, {-4, 6}, {-12, 0}};
        for (int term = 0; term < 6; term++) {
            due("gives(" + term + ", 0, 0)", g.gives(term, 0, 0), gives[term][0]);
            due("gives(" + term + ", 0, 1)", g.gives(term, 0, 1), gives[term][1]);
        }
        due("light in x, towards 0", g.gives(4, 1, 0), 0);
        due("light in y, towards 0", g.gives(4, 1, 1), 4);
        due("term -1", g.gives(-1, 0, 0), -1000);
        due("term 6", g.gives(6, 0, 0), -1000);
        due("star 2", g.gives(0, 2, 0), -1000);
        due("axis 2", g.gives(0, 0, 2), -1000);
        due("axis -1", g.gives(0, 0, -1), -1000);
        images();
    }

    private static void images() {
        promise = 6;
        BlackSun b = small();
        due("plate 3", b.image(3, 0, 0, 0, 0), -1);
        due("plate -1", b.image(-1, 0, 0, 0, 0), -1);
        due("star 2", b.image(0, 2, 0, 0, 0), -1);
        due("hand 8", b.image(0, 0, 8, 0, 0), -1);
        due("hand -1", b.image(0, 0, -1, 0, 0), -1);
        due("dx 300", b.image(0, 0, 0, 300, 0), -1);
        due("dx -300", b.image(0, 0, 0, -300, 0), -1);
        due("dy 300", b.image(0, 0, 0, 0, 300), -1);
        due("dy -300", b.image(0, 0, 0, 0, -300), -1);
        due("image", b.image(0, 0, 7, 299, -299), 0);
        due("told anew in its week", b.image(0, 0, 7, 3, 4), 1);
        b.clock(5);
        due("told anew", b.image(0, 0, 7, 5, 6), 2);
        promise = 7;
        due("week 0", b.images(0, 0, 7, 0, 0), 3);
        due("week 4", b.images(0, 0, 7, 4, 1), 4);
        due("week 5", b.images(0, 0, 7, 5, 0), 5);
        due("week 9999", b.images(0, 0, 7, 9999, 1), 6);
        due("week 10000", b.images(0, 0, 7, 10000, 1), -1000);
        due("week -1", b.images(0, 0, 7, -1, 1), -1000);
        due("what 2", b.images(0, 0, 7, 5, 2), -1000);
        due("hand 6", b.images(0, 0, 6, 5, 0), -1000);
        due("star 1", b.images(0, 1, 7, 5, 0), -1000);
        due("plate 1", b.images(1, 0, 7, 5, 0), -1000);
        due("plate 9", b.images(9, 0, 7, 5, 0), -1000);
        b.image(1, 0, 7, 1, 1);
        due("known from NOW on", b.images(1, 0, 7, 4, 0), -1000);
        promise = 6;
        for (int i = 4; i < 100; i++) {
            due("image", b.image(0, i % 2, i % 8, i, i), i);
        }
        due("the 101st image", b.image(0, 0, 0, 0, 0), -1);
        due("count(3)", b.count(3), 100);
    }

    private static void tapes() {
        promise = 9;
        BlackSun b = new BlackSun();
        for (int i = 1; i <= 20; i++) {
            due("feed", b.feed(0x66697420, 0x65617374, 0x20202020, 0x20202020, 0x20202020), 20 * i);
        }
        due("the 21st feed", b.feed(0, 0, 0, 0, 0), -1);
        due("count(7)", b.count(7), 400);
        promise = 10;
        due("end(401)", b.end(401), -1);
        due("end(-1)", b.end(-1), -1);
        due("count(7)", b.count(7), 400);
        due("end(381)", b.end(381), 381);
        promise = 9;
        due("feed over 400", b.feed(0, 0, 0, 0, 0), -1);
        due("count(7)", b.count(7), 381);
        promise = 10;
        due("end(20)", b.end(20), 20);
        promise = 11;
        due("way", b.way(), 0);
        due("the tape is empty", b.count(7), 0);
        due("way() of nothing", b.way(), fault(0, 0));
        for (int i = 1; i < 10; i++) {
            due("way", way(b, "fit light"), i);
        }
        tape(b, "nonsense");
        due("the eleventh way", b.way(), -1);
        due("the tape stays", b.count(7), 8);
        due("count(4)", b.count(4), 10);
        BlackSun f = new BlackSun();
        due("a fault", way(f, "fit \u00e9"), fault(4, 0));
        due("the tape is empty after a fault", f.count(7), 0);
        due("no way after a fault", f.count(4), 0);
        promise = 12;
        BlackSun w = new BlackSun();
        way(w, "fit east;hold north 5;check light");
        int[] doing = {1, 2, 0, 0, 3, 0};
        for (int term = 0; term < 6; term++) {
            due("ways(0, " + term + ")", w.ways(0, term), doing[term]);
        }
        due("term 6", w.ways(0, 6), -1);
        due("term -1", w.ways(0, -1), -1);
        due("way 1", w.ways(1, 0), -1);
        due("way -1", w.ways(-1, 0), -1);
    }

    private static void languageFaults() {
        promise = 11;
        faulty("", 0, 0);
        faulty("   ", 3, 0);
        faulty("fitlight", 0, 0);
        faulty("fits light", 0, 0);
        faulty("Fit light", 0, 0);
        faulty("fita light", 0, 0);
        faulty("fitz light", 0, 0);
        faulty(";fit light", 0, 0);
        faulty("fit", 3, 0);
        faulty("fit  ", 5, 0);
        faulty("fit lights", 4, 0);
        faulty("fit light fit", 10, 0);
        faulty("fit lightX", 9, 0);
        faulty("fit light;", 10, 0);
        faulty("fit light; ;", 11, 0);
        faulty("fit 5", 4, 0);
        faulty("hold light", 10, 0);
        faulty("hold light x", 11, 0);
        faulty("hold light -", 12, 0);
        faulty("hold light - 1", 12, 0);
        faulty("hold light --1", 12, 0);
        faulty("hold light +1", 11, 0);
        faulty("hold light 1-", 12, 0);
        faulty("hold light 100000", 11, 1);
        faulty("hold light 000001", 11, 1);
        faulty("hold light -100000", 12, 1);
        faulty("hand", 4, 0);
        faulty("hand -1", 5, 0);
        faulty("hand 8", 5, 1);
        faulty("hand 123456", 5, 1);
        faulty("hand 1;hand 1", 7, 5);
        faulty("hand 1;hand", 7, 5);
        faulty("fit light;hold light 1", 15, 5);
        faulty("hold light 1;check light", 19, 5);
        faulty("check bend ; fit bend", 17, 5);
        faulty("fit east;fit north;fit turn;fit bend", 32, 5);
        faulty("leave x=1", 6, 0);
        faulty("leave iff x=1", 6, 0);
        faulty("leave if", 8, 0);
        faulty("leave if x", 10, 0);
        faulty("leave if x=", 11, 0);
        faulty("leave if x= =1", 12, 0);
        faulty("leave if x< =1", 12, 0);
        faulty("leave if x=<1", 11, 0);
        faulty("leave if x==1", 11, 0);
        faulty("leave if x<>1", 11, 0);
        faulty("leave if x=1=1", 12, 0);
        faulty("leave if x=1 1", 13, 0);
        faulty("leave if x y=1", 11, 0);
        faulty("leave if -1=x", 9, 0);
        faulty("leave if x+=1", 11, 0);
        faulty("leave if x+-1=1", 11, 0);
        faulty("leave if x=1+", 13, 0);
        faulty("leave if z=1", 9, 0);
        faulty("leave if xy=1", 9, 0);
        faulty("leave if light=1", 9, 0);
        faulty("leave if and=1", 9, 0);
        faulty("leave if x=1 and", 16, 0);
        faulty("leave if x=1 or", 15, 0);
        faulty("leave if x=1 or or", 16, 0);
        faulty("leave if not", 12, 0);
        faulty("leave if x not=1", 11, 0);
        faulty("leave if []", 10, 0);
        faulty("leave if [x=1", 13, 0);
        faulty("leave if [x=1;fit light]", 13, 0);
        faulty("leave if x=1]", 12, 0);
        faulty("leave if [x]=1", 11, 0);
        faulty("leave if [x=1]+1=1", 14, 0);
        faulty("leave if x+[x=1]", 11, 0);
        faulty("leave if [x=1] not y=1", 15, 0);
        faulty("leave if [x=1][y=1]", 14, 0);
        faulty("leave if x=123456", 11, 1);
        faulty("leave if 000000=x", 9, 1);
    }

    private static void languageLimits() {
        promise = 11;
        fine(" fit light ; hold scale -00005;hand 07 ;check bend;leave if not[x=1or y<=2]and dx+1-2>=3 ");
        fine("hold light-99999");
        fine("hand0;fit bend");
        fine("leave if " + "[".repeat(10) + "x=1" + "]".repeat(10));
        fine("leave if " + "not ".repeat(10) + "x=1 and " + "not ".repeat(10) + "x=1");
        faulty("leave if " + "[".repeat(11) + "x=1", 19, 2);
        faulty("leave if " + "not ".repeat(11) + "x=1", 49, 2);
        fine("leave if " + "not [".repeat(5) + "x=1" + "]".repeat(5) + " or [x=1]");
        faulty("leave if " + "not [".repeat(5) + "not x=1", 34, 2);
        faulty("leave if " + "[ not ".repeat(5) + "[x=1", 39, 2);
        // Twenty facts of two values each are sixty, in one leave or in several.
        String twenty = "x=1" + " or x=1".repeat(19);
        fine("leave if " + twenty);
        faulty("leave if " + twenty + " or x=1", 149, 3);
        faulty("leave if " + twenty + ";leave if y=1", 155, 3);
        faulty("leave if " + twenty + "+1", 146, 3);
        faulty("leave if " + twenty + " or 123456=1", 149, 1);
        faulty("leave if " + twenty + " or z=1", 149, 0);
        faulty("leave if " + twenty + " or " + "[".repeat(11), 159, 2);
        String sum = "1" + "+1".repeat(59);
        faulty("leave if " + sum + "=1", 9 + sum.length(), 3);
        faulty("leave if " + sum + " 1", 10 + sum.length(), 0);
        faulty("leave if " + sum + "+1", 10 + sum.length(), 3);
        fine("leave if 1" + "+1".repeat(57) + "=1");
        faulty("leave if 1" + "+1".repeat(58) + "=1", 127, 3);
        String twelve = "leave if x=1;".repeat(12);
        fine(twelve.substring(0, twelve.length() - 1));
        faulty(twelve + "  hand 1", 158, 4);
        faulty(twelve + "hands", 156, 0);
        faulty(twelve, 156, 0);
        faulty("hand 1;" + "leave if x=1;".repeat(11) + "hand 2", 150, 4);
        fine("fit light" + " ".repeat(391));
        faulty("\0".repeat(400), 0, 0);
    }

    /** Whether an image is left out by a test: of star 2 (-3, 4, bright 7) on plate 1 (island 2, night, heat 33). */
    private static void leaves(String test, boolean isLeft) {
        BlackSun b = new BlackSun();
        b.star(1, 1, 1);
        b.star(1, 1, 1);
        b.star(-3, 4, 7);
        b.plate(0, 0, 0);
        b.plate(2, 1, 33);
        b.clock(6);
        b.image(1, 2, 5, -12, 34);
        due("way", way(b, "leave if " + test), 0);
        due("takes with leave if " + test, b.takes(0, 6, -1), isLeft ? 0 : 1);
    }

    private static void tests() {
        promise = 13;
        String[] words = {"plate=1", "island=2", "kind=1", "heat=33", "star=2", "bright=7", "far=25", "x=0-3", "y=4",
            "dx=0-12", "dy=34", "week=6", "hand=5"};
        for (String word : words) {
            leaves(word, true);
            leaves(word + "+1", false);
        }
        leaves("y<4", false);
        leaves("y<5", true);
        leaves("y<=4", true);
        leaves("y<=3", false);
        leaves("y>=5", false);
        leaves("y>=4", true);
        leaves("y>4", false);
        leaves("y>3", true);
        leaves("1+2+3=6", true);
        leaves("10-2-3=5", true);
        leaves("10-2+3=11", true);
        leaves("y=1+2+1 and x=7-10", true);
        leaves("1=1 or 1=2 and 1=2", true);
        leaves("1=2 and 1=2 or 1=1", true);
        leaves("1=2 and [1=2 or 1=1]", false);
        leaves("not 1=2 and 1=1", true);
        leaves("not 1=1 or 1=1", true);
        leaves("not [1=1 or 1=1]", false);
        leaves("not not 1=1", true);
        leaves("not not not 1=1", false);
        leaves("1=1 and 1=1 and 1=2", false);
        leaves("1=2 or 1=2 or 1=1", true);
        leaves("1=2;leave if 1=1", true);
        leaves("1=2;leave if 1=2;hand 5", false);
        leaves("1=2;hand 4", true);
    }

    private static void takings() {
        promise = 13;
        BlackSun b = small();
        way(b, "fit light");
        way(b, "fit light;hand 1");
        way(b, "leave if week > 3 or star = 1");
        b.image(0, 0, 0, 1, 1);
        b.image(1, 0, 0, 1, 1);
        b.image(2, 0, 0, 1, 1);
        b.image(0, 1, 1, 1, 1);
        b.clock(4);
        b.image(0, 0, 0, 2, 2);
        due("all dark and night", b.takes(0, 0, -1), 3);
        due("the first", b.takes(0, 0, 0), 0);
        due("the second", b.takes(0, 0, 1), 1);
        due("the third", b.takes(0, 0, 2), 3);
        due("no fourth", b.takes(0, 0, 3), -1);
        due("k -2", b.takes(0, 0, -2), -1);
        due("one told anew", b.takes(0, 4, -1), 3);
        due("the last", b.takes(0, 4, 2), 4);
        due("its hand alone", b.takes(1, 4, -1), 1);
        due("its hand's image", b.takes(1, 4, 0), 3);
        due("what is left does not bring back what came before it", b.takes(2, 4, -1), 1);
        due("before it was told anew", b.takes(2, 3, -1), 2);
        due("way 3", b.takes(3, 0, -1), -1);
        due("week 10000", b.takes(0, 10000, -1), -1);
    }

    private static void answers() {
        promise = 14;
        BlackSun b = small();
        int light = way(b, "fit light");
        int both = way(b, "fit light;fit scale");
        int held = way(b, "fit light;hold scale 1999");
        int checked = way(b, "fit light;check scale");
        int nothing = way(b, "hold turn -7");
        int threeTerms = way(b, "fit east;fit north;fit turn");
        int nightly = way(b, "fit light;leave if kind=0");
        due("nothing taken", b.answer(light, 4, 0), NO);
        due("nothing taken, a term not named", b.answer(light, 0, 0), NO);
        due("nothing taken, nothing fitted", b.answer(nothing, 3, 0), NO);
        b.image(0, 0, 0, 20, 0);
        due("light", b.answer(light, 4, 0), 500);
        due("several numbers would do", b.answer(both, 4, 0), NO);
        due("nothing fitted", b.answer(nothing, 3, 0), -7);
        due("not named", b.answer(nothing, 4, 0), 0);
        due("no check", b.answer(checked, 4, 0), NO);
        b.image(0, 1, 0, 0, -21);
        due("downwards", b.answer(light, 4, 0), 190);
        due("light of both", b.answer(both, 4, 0), 1016);
        due("scale of both, downwards", b.answer(both, 2, 0), -20667);
        due("less what is held, towards 0 each", b.answer(held, 4, 0), (40 * (20 - 1) + 20 * (-21 - 3)) * 1000 / 2000);
        due("what is held", b.answer(held, 2, 0), 1999);
        b.image(2, 1, 0, 9, -13);
        due("of check", b.answer(checked, 2, 0), -6500);
        due("with a check", b.answer(checked, 4, 0), (40 * (20 + 6) + 20 * (-21 + 13)) * 1000 / 2000);
        b.image(1, 0, 0, 40, 0);
        due("night turned, without light", b.answer(light, 4, 0), 190);
        due("light by night alone", b.answer(nightly, 4, 0), NO);
        due("east of three", b.answer(threeTerms, 0, 0), -6534);
        due("north of three", b.answer(threeTerms, 1, 0), -7134);
        due("turn of three", b.answer(threeTerms, 3, 0), 200);
        due("way 7", b.answer(7, 4, 0), NOT_THERE);
        due("term 6", b.answer(0, 6, 0), NOT_THERE);
        due("term -1", b.answer(0, -1, 0), NOT_THERE);
        due("week -1", b.answer(0, 4, -1), NOT_THERE);
        beyond(1);
        beyond(-1);
        checks();
        threeAtOnce();
    }

    /** Checks of several stars, in x and y, by the way's hand alone; and a held term of each plate. */
    private static void checks() {
        BlackSun b = small();
        b.star(3, 4, 0);
        way(b, "check scale;hold east 2999;hand 1;fit north");
        b.image(2, 2, 0, 99, 99);
        b.image(0, 0, 1, 0, 8);
        due("no check by its hand", b.answer(0, 1, 0), NO);
        b.image(2, 0, 1, 6, 5);
        b.image(2, 2, 1, 10, -20);
        due("of two stars", b.answer(0, 2, 0), Math.floorDiv((6 + 30 - 80) * 1000, 26));
        due("fitted beside it", b.answer(0, 1, 0), 8000);
        due("what is left in x", b.miss(0, 0), (-2 + 1) * (-2 + 1));
    }

    /** Three terms that all mix: 2 east, 3 scale and 5 bend are put in and found again. */
    private static void threeAtOnce() {
        BlackSun b = new BlackSun();
        int[][] stars = {{1, 2}, {3, -1}, {-2, 2}};
        b.plate(0, 0, 0);
        way(b, "fit scale;fit bend;fit east");
        for (int i = 0; i < 3; i++) {
            int x = stars[i][0];
            int y = stars[i][1];
            b.star(x, y, 0);
            b.image(0, i, 0, 2 + 3 * x + 5 * x * y, 3 * y);
        }
        due("east", b.answer(0, 0, 0), 2000);
        due("scale", b.answer(0, 2, 0), 3000);
        due("bend", b.answer(0, 5, 0), 5000);
        due("nothing is left", b.miss(0, 0), 0);
    }

    /** Answers beyond 99999999 thousandths are none: checks make measures great, and two terms are almost one. */
    private static void beyond(int sign) {
        BlackSun b = new BlackSun();
        b.star(9, 8, 0);
        b.star(1, 1, 0);
        b.plate(0, 0, 0);
        b.plate(0, 2, 0);
        b.image(0, 0, 0, 299 * sign, -299 * sign);
        b.image(1, 1, 0, -299 * sign, 299 * sign);
        way(b, "fit scale;fit light;check bend");
        way(b, "fit scale;fit light;check bend;check turn");
        due("great", b.answer(0, 4, 0), -88653500 * sign);
        due("too great", b.answer(1, 4, 0), NO);
        due("too great for its miss", b.miss(1, 0), -1);
    }

    private static void misses() {
        promise = 15;
        BlackSun b = small();
        way(b, "fit light");
        way(b, "fit light;fit scale");
        way(b, "hold scale -1999;hold light 26");
        way(b, "check scale");
        due("nothing taken", b.miss(0, 0), -1);
        b.image(0, 0, 0, 20, 0);
        b.image(0, 1, 0, 0, 20);
        due("light", b.miss(0, 0), 16 + 64);
        due("both together by 1000", b.miss(1, 0), 2);
        due("nothing fitted, each term by itself towards 0", b.miss(2, 0), 20 * 20 + 23 * 23);
        due("no check", b.miss(3, 0), -1);
        b.image(1, 0, 0, 5, 0);
        due("by night turned, and without light", b.miss(2, 0), 20 * 20 + 23 * 23 + 4 * 4);
        due("way 4", b.miss(4, 0), -1);
        due("way -1", b.miss(-1, 0), -1);
        due("week 10000", b.miss(0, 10000), -1);
    }

    private static void leavings() {
        promise = 16;
        BlackSun b = small();
        b.plate(1, 0, 0);
        way(b, "fit light");
        way(b, "fit light;check scale");
        way(b, "fit east");
        b.image(0, 0, 0, 20, 0);
        b.image(3, 1, 0, 0, 20);
        b.image(2, 0, 0, 8, 0);
        due("without plate 0", b.each(0, 0, 0, 0), 1000);
        due("without plate 3", b.each(0, 0, 0, 3), 500);
        due("without a plate that has nothing", b.each(0, 0, 0, 1), 600);
        due("without star 0", b.each(0, 0, 1, 0), 1000);
        due("without star 1", b.each(0, 0, 1, 1), 500);
        due("checks are never left out", b.each(1, 0, 0, 2), (40 * 12 + 20 * 4) * 1000 / 2000);
        due("nor by a star", b.each(1, 0, 1, 0), 4 * 1000 / 20);
        due("light not named", b.each(2, 0, 0, 0), 0);
        due("plate 4", b.each(0, 0, 0, 4), NOT_THERE);
        due("star 2", b.each(0, 0, 1, 2), NOT_THERE);
        due("star -1", b.each(0, 0, 1, -1), NOT_THERE);
        due("what 2", b.each(0, 0, 2, 0), NOT_THERE);
        due("way 3", b.each(3, 0, 0, 0), NOT_THERE);
        due("week -1", b.each(0, -1, 0, 0), NOT_THERE);
        promise = 32;
        due("the least", b.span(0, 0, 0), 500);
        due("the greatest", b.span(0, 0, 1), 1000);
        due("of a way with a check", b.span(1, 0, 1), 300);
        due("light not named", b.span(2, 0, 1), 0);
        due("what 2", b.span(0, 0, 2), NOT_THERE);
        due("way 3", b.span(3, 0, 0), NOT_THERE);
        due("week 10000", b.span(0, 10000, 0), NOT_THERE);
        BlackSun plates = small();
        way(plates, "fit light");
        plates.plate(0, 0, 0);
        plates.image(0, 0, 0, 20, 0);
        plates.image(3, 0, 0, 40, 0);
        due("the least by plates", plates.span(0, 0, 0), 500);
        due("the greatest by plates", plates.span(0, 0, 1), 1000);
        BlackSun one = small();
        way(one, "fit light");
        due("nothing taken", one.span(0, 0, 0), NO);
        one.image(0, 0, 0, 20, 0);
        due("one alone", one.span(0, 0, 0), 500);
        due("without all of it", one.each(0, 0, 0, 0), NO);
    }

    private static void rulings() {
        promise = 17;
        BlackSun b = new BlackSun();
        b.star(1, 0, 0);
        b.plate(0, 0, 0);
        b.plate(0, 2, 0);
        for (int i = 2; i < 10; i++) {
            b.plate(0, 0, 0);
        }
        way(b, "fit light");
        due("nothing", b.ruled(0, 4, 0, 0, 0), NO);
        b.image(0, 0, 0, 40, 0);
        b.image(2, 0, 0, 80, 0);
        b.image(3, 0, 0, 120, 0);
        b.image(9, 0, 0, 160, 0);
        b.image(1, 0, 0, 299, 0);
        due("none left out", b.ruled(0, 4, 0, 2500, 0), 0);
        due("none left out, the answer", b.ruled(0, 4, 0, 2500, 1), 2500);
        due("two left out", b.ruled(0, 4, 0, 3500, 0), 1 | 4);
        due("two left out, the answer", b.ruled(0, 4, 0, 3500, 1), 3500);
        due("the ninth of them stays", b.ruled(0, 4, 0, 1000, 1), 2333);
        due("the ninth of them stays, the set", b.ruled(0, 4, 0, 1000, 0), 8);
        due("the least number of two that are as near", b.ruled(0, 4, 0, 3000, 0), 1);
        due("below all", b.ruled(0, 4, 0, -99999, 1), 2333);
        due("the fewest of two that are as near", fewest(), 8);
        b.image(8, 0, 0, 240, 0);
        due("the eighth of them may be left out", b.ruled(0, 4, 0, 2500, 0), 256);
        b.image(2, 0, 0, 40, 0);
        due("the least number of two as near and as few", b.ruled(0, 4, 0, 3500, 0), 1);
        due("number -100000", b.ruled(0, 4, 0, -100000, 0), NOT_THERE);
        due("number 100000", b.ruled(0, 4, 0, 100000, 0), NOT_THERE);
        due("what 2", b.ruled(0, 4, 0, 0, 2), NOT_THERE);
        due("not fitted", b.ruled(0, 2, 0, 0, 0), NOT_THERE);
        due("term 6", b.ruled(0, 6, 0, 0, 0), NOT_THERE);
        due("way 1", b.ruled(1, 4, 0, 0, 0), NOT_THERE);
        due("week -1", b.ruled(0, 4, -1, 0, 0), NOT_THERE);
    }

    /** Without plates 0 and 2, or without plate 3, light is 3000; plate 9 always stays. */
    private static int fewest() {
        BlackSun b = new BlackSun();
        b.star(1, 0, 0);
        for (int i = 0; i < 10; i++) {
            b.plate(0, 0, 0);
        }
        way(b, "fit light");
        b.image(0, 0, 0, 40, 0);
        b.image(2, 0, 0, 160, 0);
        b.image(3, 0, 0, 80, 0);
        b.image(9, 0, 0, 160, 0);
        return b.ruled(0, 4, 0, 3000, 0);
    }

    private static void threes() {
        promise = 18;
        BlackSun b = small();
        way(b, "fit light");
        due("nothing taken", b.three(0, 0, 1, 2, 3), -2);
        b.image(0, 0, 0, 20, 0);
        way(b, "fit light;fit scale");
        way(b, "check light");
        way(b, "check scale");
        due("the first", b.three(0, 0, 500, 0, 900), 0);
        due("the second", b.three(0, 0, 0, 499, 900), 1);
        due("the third", b.three(0, 0, 0, 900, 502), 2);
        due("the first of several", b.three(0, 0, 0, 1000, 0), 0);
        due("the others fitted", b.three(1, 0, 99999, 5, 7), 0);
        due("instead of a check", b.three(2, 0, 0, 0, 500), 2);
        due("no check of scale", b.three(3, 0, 0, 0, 500), -2);
        due("a -1", b.three(0, 0, -1, 0, 0), -1);
        due("b 100000", b.three(0, 0, 0, 100000, 0), -1);
        due("c -1", b.three(0, 0, 0, 0, -1), -1);
        due("way 4", b.three(4, 0, 0, 0, 0), -1);
        due("week 10000", b.three(0, 10000, 0, 0, 0), -1);
        promise = 33;
        due("how many name the first", b.named(0, 0, 9, 500, 0), 1);
        due("how many name the third", b.named(0, 0, 9, 500, 2), 2);
        due("how many name none", b.named(0, 0, 9, 500, 3), 1);
        due("k 4", b.named(0, 0, 9, 500, 4), -1);
        due("k -1", b.named(0, 0, 9, 500, -1), -1);
        due("c 100000", b.named(0, 0, 9, 100000, 0), -1);
        due("week -1", b.named(-1, 0, 9, 500, 0), -1);
        due("without ways", new BlackSun().named(0, 1, 2, 3, 3), 0);
    }

    private static void mixes() {
        promise = 19;
        BlackSun b = small();
        b.star(-9, 0, 0);
        b.star(0, -9, 0);
        due("above, without stars", b.mixed(1, 0, 0), 0);
        due("below, without stars", b.mixed(1, 0, 1), 1);
        b.image(1, 0, 3, 1, 1);
        due("above, one star, by night too", b.mixed(1, 0, 0), 1);
        b.image(1, 1, 4, 1, 1);
        b.image(1, 1, 5, 1, 1);
        due("above", b.mixed(1, 0, 0), 16);
        due("below", b.mixed(1, 0, 1), 25);
        due("part 2", b.mixed(1, 0, 2), -1);
        due("part -1", b.mixed(1, 0, -1), -1);
        due("plate 3", b.mixed(3, 0, 0), -1);
        due("week -1", b.mixed(1, -1, 0), -1);
        promise = 20;
        due("the least of several", b.parter(1, 0), 2);
        b.clock(1);
        b.image(1, 2, 0, 1, 1);
        due("in the week before", b.parter(1, 0), 2);
        due("the next", b.parter(1, 1), 3);
        b.image(1, 3, 0, 1, 1);
        due("none", b.parter(1, 1), -1);
        due("of an empty plate, each is as mixed", b.parter(0, 1), 0);
        due("plate 3", b.parter(3, 0), -1);
        due("week 10000", b.parter(1, 10000), -1);
        promise = 21;
        due("no image on the check plate", b.usable(0, 1, 99), 0);
        b.image(2, 0, 0, 1, 1);
        due("near enough", b.usable(0, 1, 20), 1);
        due("not near enough", b.usable(0, 1, 19), 0);
        due("not known then", b.usable(0, 0, 20), 0);
        due("a night plate", b.usable(1, 1, 20), -1);
        due("a check plate", b.usable(2, 1, 20), -1);
        due("plate 3", b.usable(3, 1, 20), -1);
        due("off 100", b.usable(0, 1, 100), -1);
        due("off -1", b.usable(0, 1, -1), -1);
        due("week -1", b.usable(0, -1, 1), -1);
        b.plate(1, 0, 30);
        due("another island", b.usable(3, 1, 99), 0);
    }

    private static void hands() {
        promise = 22;
        BlackSun b = small();
        b.clock(9);
        due("later than NOW", b.tell(0, 10), false);
        due("week -1", b.tell(0, -1), false);
        due("hand 8", b.tell(8, 0), false);
        due("hand -1", b.tell(-1, 0), false);
        due("tell", b.tell(2, 5), true);
        due("a later week changes nothing", b.tell(2, 9), true);
        due("the first week", b.tell(7, 0), true);
        promise = 23;
        due("before", b.knows(2, 4), 0);
        due("from it on", b.knows(2, 5), 1);
        due("on and on", b.knows(2, 9999), 1);
        due("another", b.knows(3, 9999), 0);
        due("hand 8", b.knows(8, 0), -1);
        due("week 10000", b.knows(2, 10000), -1);
        promise = 24;
        due("nothing above", b.leans(0, 9, 0, 0), 0);
        due("nothing below", b.leans(0, 9, 0, 1), 1);
        b.image(0, 1, 0, 10, 3);
        b.image(0, 1, 1, 4, 1);
        b.image(0, 1, 2, 5, 1);
        b.image(0, 1, 3, 5, 2);
        b.image(2, 0, 0, 1, 0);
        b.image(2, 0, 4, 2, 0);
        b.image(1, 0, 0, 100, 0);
        due("above", b.leans(0, 9, 0, 0), 9);
        due("below", b.leans(0, 9, 0, 1), 4);
        due("outwards, above", b.leans(0, 9, 1, 0), 1);
        due("outwards, below", b.leans(0, 9, 1, 1), 1);
        due("of one who knows", b.leans(2, 9, 0, 0), -4);
        due("of one who knows, below", b.leans(2, 9, 0, 1), 3);
        due("not known then", b.leans(0, 8, 0, 1), 1);
        long none = -1000000000000L;
        due("hand 8", b.leans(8, 9, 0, 0), none);
        due("week -1", b.leans(0, -1, 0, 0), none);
        due("what 2", b.leans(0, 9, 2, 0), none);
        due("part 2", b.leans(0, 9, 0, 2), none);
        promise = 38;
        due("how many", b.again(0, 3, 9, 0), 1);
        due("all dx", b.again(0, 3, 9, 1), -5);
        due("all dy", b.again(0, 3, 9, 2), -1);
        due("the greatest", b.again(0, 3, 9, 3), 26);
        due("its plate", b.again(0, 3, 9, 4), 0);
        due("its star", b.again(0, 3, 9, 5), 1);
        b.image(2, 0, 3, 2, 5);
        b.image(0, 0, 0, 0, 0);
        b.image(0, 0, 3, -1, -5);
        due("how many", b.again(0, 3, 9, 0), 3);
        due("the first by stars of several", b.again(0, 3, 9, 5), 0);
        due("the first by plates of several", b.again(0, 3, 9, 4), 0);
        due("turned about", b.again(3, 0, 9, 1), 5);
        due("none in common", b.again(4, 5, 9, 3), 0);
        due("none in common, plate", b.again(4, 5, 9, 4), -1);
        due("none in common, star", b.again(4, 5, 9, 5), -1);
        b.image(0, 0, 4, 7, 7);
        b.image(0, 0, 5, 7, 7);
        due("one that did not move, plate", b.again(4, 5, 9, 4), 0);
        b.image(0, 1, 4, 7, 7);
        b.image(0, 1, 5, 7, 7);
        due("none moved, star", b.again(4, 5, 9, 5), 0);
        b.image(2, 0, 6, 0, 0);
        b.image(2, 0, 7, 3, 0);
        b.image(0, 1, 6, 0, 0);
        b.image(0, 1, 7, 0, 3);
        b.image(1, 0, 6, 0, 0);
        b.image(1, 0, 7, 0, -3);
        due("the first by plates, then by stars: plate", b.again(6, 7, 9, 4), 0);
        due("the first by plates, then by stars: star", b.again(6, 7, 9, 5), 1);
        due("one hand", b.again(3, 3, 9, 0), -1000000);
        due("hand 8", b.again(3, 8, 9, 0), -1000000);
        due("week 10000", b.again(3, 0, 10000, 0), -1000000);
        due("what 6", b.again(3, 0, 9, 6), -1000000);
    }

    private static void islands() {
        promise = 25;
        BlackSun b = new BlackSun();
        b.star(1, 0, 0);
        b.star(-1, 0, 0);
        b.plate(0, 0, 0);
        b.plate(1, 0, 0);
        b.plate(1, 1, 0);
        way(b, "fit light");
        b.image(0, 0, 0, 20, 0);
        due("one has none", b.joined(0, 0, 0, 1), NO);
        b.image(1, 0, 0, 41, 0);
        b.image(1, 1, 0, -40, 0);
        due("downwards", b.joined(0, 0, 0, 1), Math.floorDiv(500 + 2 * 1012, 3));
        due("downwards, turned about", b.joined(0, 0, 1, 0), Math.floorDiv(500 + 2 * 1012, 3));
        b.image(2, 0, 0, 0, 0);
        due("night's images count, too", b.joined(0, 0, 1, 0), Math.floorDiv(500 + 3 * 1012, 4));
        due("one island", b.joined(0, 0, 1, 1), NOT_THERE);
        due("island 4", b.joined(0, 0, 1, 4), NOT_THERE);
        due("island -1", b.joined(0, 0, -1, 1), NOT_THERE);
        due("way 1", b.joined(1, 0, 0, 1), NOT_THERE);
        due("week 10000", b.joined(0, 10000, 0, 1), NOT_THERE);
        promise = 26;
        due("more apart", b.quarrel(0, 0, 0, 1, 511), 1);
        due("not more apart", b.quarrel(0, 0, 0, 1, 512), 0);
        due("not more apart, turned about", b.quarrel(0, 0, 1, 0, 512), 0);
        due("one has none", b.quarrel(0, 0, 0, 3, 0), 0);
        due("the first has none", b.quarrel(0, 0, 3, 0, 0), 0);
        due("one island", b.quarrel(0, 0, 2, 2, 0), -1);
        due("island 4", b.quarrel(0, 0, 4, 2, 0), -1);
        due("off -1", b.quarrel(0, 0, 0, 1, -1), -1);
        due("off 100000", b.quarrel(0, 0, 0, 1, 100000), -1);
        due("way -1", b.quarrel(-1, 0, 0, 1, 0), -1);
        due("week -1", b.quarrel(0, -1, 0, 1, 0), -1);
    }

    private static void sayings() {
        promise = 27;
        BlackSun b = small();
        due("way 0", b.say(0, 0), -1);
        way(b, "fit light");
        due("number 100000", b.say(0, 100000), -1);
        due("number -100000", b.say(0, -100000), -1);
        b.clock(3);
        for (int i = 0; i < 40; i++) {
            due("say", b.say(0, i == 1 ? -99999 : 490), i);
        }
        due("the 41st", b.say(0, 0), -1);
        due("count(5)", b.count(5), 40);
        promise = 28;
        due("no answer", b.could(0, 99999, false), 0);
        b.image(0, 0, 0, 20, 0);
        due("in its week", b.could(0, 10, false), 1);
        due("not so near", b.could(0, 9, false), 0);
        due("far below", b.could(1, 99999, false), 0);
        b.clock(4);
        b.image(0, 0, 0, 40, 0);
        due("in its week still", b.could(0, 10, false), 1);
        due("not later", b.could(0, 509, true), 0);
        due("later, by more", b.could(0, 510, true), 1);
        due("said 40", b.could(40, 0, true), -1);
        due("said -1", b.could(-1, 0, true), -1);
        due("off -1", b.could(0, -1, true), -1);
        due("off 100000", b.could(0, 100000, true), -1);
    }

    private static void fields() {
        promise = 29;
        BlackSun b = small();
        b.star(3, 4, 0);
        due("minutes 0", b.field(0, 1), -1);
        due("minutes 100", b.field(100, 1), -1);
        due("a star that is not there", b.field(1, 8), -1);
        due("below 0", b.field(1, -1), -1);
        due("the sign's bit", b.field(1, 1 << 31), -1);
        promise = 30;
        due("no fields", b.planned(999, 0), 0);
        promise = 29;
        due("one minute, no stars", new BlackSun().field(1, 0), 0);
        due("field", b.field(3, 1), 0);
        due("field", b.field(2, 2), 1);
        due("field", b.field(4, 6), 2);
        due("field", b.field(5, 3), 3);
        promise = 30;
        due("none fits", b.planned(1, 0), 0);
        due("none fits, minutes", b.planned(1, 2), 0);
        due("the least number of two as good", b.planned(5, 0), 3);
        due("the sum", b.planned(5, 1), 2000);
        due("a star of two fields is one", b.planned(14, 1), 2052);
        due("the fewest minutes", b.planned(999, 0), 5);
        due("the minutes", b.planned(999, 2), 7);
        due("minutes 0", b.planned(0, 0), -1);
        due("minutes 1000", b.planned(1000, 0), -1);
        due("what 3", b.planned(5, 3), -1);
        due("what -1", b.planned(5, -1), -1);
        promise = 29;
        for (int i = 4; i < 9; i++) {
            due("field", b.field(99, 7), i);
        }
        due("the tenth", b.field(1, 1), -1);
        due("count(6)", b.count(6), 9);
    }

    private static void worlds() {
        promise = 31;
        BlackSun b = small();
        way(b, "fit light");
        way(b, "fit light;leave if dx > 0");
        way(b, "fit light;fit east");
        way(b, "fit light;check scale");
        due("nothing taken", b.right(0, 1, 500, 0, 3, 99999), 0);
        b.image(0, 0, 0, 20, 0);
        due("no slip", b.right(0, 1, 500, 0, 50, 0), 50);
        due("towards 0", b.right(0, 1, 499, 0, 1, 23), 0);
        due("towards 0, by more", b.right(0, 1, 499, 0, 1, 24), 1);
        due("left out as measured", b.right(1, 1, 500, 0, 3, 99999), 0);
        due("no check", b.right(3, 1, 500, 0, 3, 99999), 0);
        due("law 0, seed 0", b.right(0, 0, 0, 0, 3, 0), 3);
        way(b, "fit light;hold east 5999");
        due("less what is held", b.right(4, 1, 1010, 0, 2, 134), 0);
        due("less what is held, by more", b.right(4, 1, 1010, 0, 2, 135), 2);
        slips(b);
        due("way 5", b.right(5, 1, 500, 0, 3, 1), -1);
        due("seed -1", b.right(0, -1, 500, 0, 3, 1), -1);
        due("the greatest seed", b.right(0, Integer.MAX_VALUE, 500, 0, 3, 1), 3);
        due("law -1", b.right(0, 1, -1, 0, 3, 1), -1);
        due("law 10000", b.right(0, 1, 10000, 0, 3, 1), -1);
        due("slip -1", b.right(0, 1, 500, -1, 3, 1), -1);
        due("slip 100", b.right(0, 1, 500, 100, 3, 1), -1);
        due("n 0", b.right(0, 1, 500, 0, 0, 1), -1);
        due("n 51", b.right(0, 1, 500, 0, 51, 1), -1);
        due("off -1", b.right(0, 1, 500, 0, 3, -1), -1);
        due("off 100000", b.right(0, 1, 500, 0, 3, 100000), -1);
    }

    /** One star on a dark plate and on a night plate: east is what the night says, light the rest. */
    private static void slips(BlackSun b) {
        b.image(1, 0, 0, 9, 0);
        for (int off = 0; off <= 250; off += 25) {
            due("slips by seed, on and on", b.right(2, 77, 1010, 7, 20, off), nearWorlds(off));
        }
        due("some and not all are near", nearWorlds(100) > 0 && nearWorlds(100) < 20, true);
    }

    private static int nearWorlds(int off) {
        long x0 = 77;
        int near = 0;
        for (int world = 0; world < 20; world++) {
            int[] slip = new int[4];
            for (int i = 0; i < 4; i++) {
                x0 = (x0 * 1103515245L + 12345) % 2147483648L;
                slip[i] = (int) (x0 / 65536 % 15) - 7;
            }
            int east = -slip[2];
            int light = Math.floorDiv((40 + slip[0] - east) * 1000, 40);
            if (Math.abs(light - 1010) <= off) {
                near++;
            }
        }
        return near;
    }

    private static void glasses() {
        promise = 34;
        BlackSun b = small();
        due("island 4", b.glass(4, 0, 0, 0), false);
        due("island -1", b.glass(-1, 0, 0, 0), false);
        due("light", b.glass(0, 4, 0, 0), false);
        due("term 6", b.glass(0, 6, 0, 0), false);
        due("cold 10000", b.glass(0, 0, 10000, 0), false);
        due("cold -10000", b.glass(0, 0, -10000, 0), false);
        due("more 100", b.glass(0, 0, 0, 100), false);
        due("more -100", b.glass(0, 0, 0, -100), false);
        promise = 35;
        due("0 at first", b.stands(0, 0, 0, 0), 0);
        promise = 34;
        due("glass", b.glass(0, 2, 9999, 99), true);
        due("told last", b.glass(0, 2, 900, 99), true);
        due("another term", b.glass(0, 0, -1500, 0), true);
        due("another island", b.glass(1, 2, 9999, 0), true);
        promise = 35;
        due("each by itself", b.stands(0, 0, 0, 0), 1 - 1);
        due("in y", b.stands(0, 1, 0, 1), 3);
        due("with light", b.stands(0, 1, 1999, 1), 3 + 39);
        due("by night", b.stands(1, 1, 1999, 1), (900 + 20 * 99) * 2 / 1000);
        due("of a check plate", b.stands(2, 1, 1999, 1), (900 + 30 * 99) * 2 / 1000 + 39);
        due("light 100000", b.stands(0, 0, 100000, 0), -1000000);
        due("light -1", b.stands(0, 0, -1, 0), -1000000);
        due("axis 2", b.stands(0, 0, 0, 2), -1000000);
        due("plate 3", b.stands(3, 0, 0, 0), -1000000);
        due("star 2", b.stands(0, 2, 0, 0), -1000000);
        promise = 36;
        due("without images", b.off(0, 0, 0), 0);
        b.image(0, 1, 0, 5, 5);
        b.image(0, 1, 1, 0, 1);
        due("off", b.off(0, 0, 0), 36 + 4 + 1 + 4);
        due("off by night is not turned", b.off(1, 0, 5), 0);
        due("plate 3", b.off(3, 0, 0), -1);
        due("week -1", b.off(0, -1, 0), -1);
        due("light 100000", b.off(0, 0, 100000), -1);
        promise = 37;
        due("the least of several", b.heat(0, 0, 0), 7);
        due("without images", b.heat(1, 0, 0), -1);
        due("plate -1", b.heat(-1, 0, 0), -1);
        due("week 10000", b.heat(0, 10000, 0), -1);
        due("light -1", b.heat(0, 0, -1), -1);
        b.glass(0, 2, 0, 0);
        due("all alike", b.heat(0, 0, 0), 0);
        b.glass(0, 2, 0, 1);
        due("by less than a hair", b.heat(0, 0, 0), 0);
        b.glass(0, 1, 0, 99);
        b.image(0, 1, 0, 5, 299);
        b.image(0, 1, 1, 5, 299);
        due("hotter and hotter", b.heat(0, 0, 0), 91);
        b.glass(0, 1, 0, 0);
        b.glass(0, 2, 0, 91);
        due("the hottest", b.heat(0, 0, 0), 99);
        b.glass(0, 2, 0, 90);
        due("none hotter than 99", b.heat(0, 0, 0), 95);
    }

    private static void marks() {
        promise = 39;
        BlackSun b = small();
        b.clock(2);
        due("mark -1", b.mark(-1), -1);
        due("mark 4", b.mark(4), -1);
        due("mark", b.mark(3), 2);
        promise = 40;
        due("never made", b.back(0), -1);
        due("back -1", b.back(-1), -1);
        due("back 4", b.back(4), -1);
        fill(b);
        b.mark(0);
        due("back", b.back(3), 2);
        int[] empty = {2, 2, 3, 0, 0, 0, 0, 5};
        for (int what = 0; what < 8; what++) {
            due("count(" + what + ") as it was", b.count(what), empty[what]);
        }
        due("glass as it was", b.stands(0, 0, 0, 0), 0);
        due("knows as it was", b.knows(1, 9999), 0);
        b.end(0);
        b.star(5, 5, 5);
        b.plate(3, 2, 9);
        b.image(0, 1, 1, 9, 9);
        due("other ways", way(b, "hold light 7"), 0);
        b.say(0, 5);
        b.field(50, 2);
        b.tell(4, 0);
        due("back to what was gone", b.back(0), 8);
        int[] full = {8, 3, 4, 2, 1, 1, 1, 0};
        for (int what = 0; what < 8; what++) {
            due("count(" + what + ") again", b.count(what), full[what]);
        }
        due("star again", b.stars(2, 2), 77);
        due("plate again", b.usable(3, 8, 0), 0);
        due("image again", b.images(0, 0, 0, 8, 0), 30);
        due("image before again", b.images(0, 0, 0, 7, 0), 20);
        due("way again", b.ways(0, 4), 1);
        due("said again", b.could(0, 0, false), 1);
        due("field again", b.planned(9, 0), 1);
        due("glass again", b.stands(0, 0, 0, 0), 2);
        due("glass of another island again", b.stands(3, 2, 0, 0), 49 * (7000 + 3) / 1000);
        due("knows again", b.knows(1, 3), 1);
        due("knows of another", b.knows(4, 9), 0);
        b.image(0, 0, 0, 99, 9);
        due("back as often as one likes", b.back(0), 8);
        due("image once more", b.images(0, 0, 0, 8, 0), 30);
        due("told anew", b.image(0, 0, 0, 31, 0), 2);
        due("image told anew", b.images(0, 0, 0, 8, 0), 31);
        due("made anew", b.mark(3), 8);
        b.clock(9);
        due("back to what was made anew", b.back(3), 8);
    }

    private static void fill(BlackSun b) {
        b.image(0, 0, 0, 20, 0);
        b.clock(8);
        b.image(0, 0, 0, 30, 0);
        b.star(7, 7, 77);
        b.plate(2, 0, 1);
        way(b, "fit light");
        b.say(0, 750);
        b.field(9, 7);
        b.glass(0, 0, 2000, 0);
        b.glass(2, 5, 7000, 3);
        b.tell(1, 3);
        tape(b, "fit n");
    }
}
