/**
 * Stars beside a black sun: plates, images, ways that fit them, and what can be asked of these.
 * The promises are numbered in the project's document; README.md tells how to use the class.
 */
public final class BlackSun {
    public static final int NONE = -1;

    private static final int LAST_WEEK = 9999;
    private static final int STARS = 30;
    private static final int PLATES = 16;
    private static final int IMAGES = 100;
    private static final int HANDS = 8;
    private static final int ISLANDS = 4;
    private static final int WAYS = 10;
    private static final int SAID = 40;
    private static final int FIELDS = 9;
    private static final int MARKS = 4;
    private static final int TAPE_BYTES = 400;
    private static final int TAPE_NUMBERS = 5;

    private static final int TERMS = 6;
    private static final int EAST = 0;
    private static final int NORTH = 1;
    private static final int SCALE = 2;
    private static final int TURN = 3;
    private static final int LIGHT = 4;
    private static final int BEND = 5;
    private static final int LIGHT_PULL = 40;

    private static final int DARK = 0;
    private static final int NIGHT = 1;
    private static final int CHECK = 2;

    private static final int NOT_NAMED = 0;
    private static final int FITTED = 1;
    private static final int HELD = 2;
    private static final int CHECKED = 3;
    private static final int MOST_FITTED = 3;

    // What a test is made of; from OP_PLUS on, the greater the number, the less it binds.
    private static final int OP_NUMBER = 0;
    private static final int OP_WORD = 1;
    private static final int OP_PLUS = 2;
    private static final int OP_MINUS = 3;
    private static final int OP_BELOW = 4;
    private static final int OP_AT_MOST = 5;
    private static final int OP_EQUAL = 6;
    private static final int OP_AT_LEAST = 7;
    private static final int OP_ABOVE = 8;
    private static final int OP_NOT = 9;
    private static final int OP_AND = 10;
    private static final int OP_OR = 11;
    private static final int OP_BRACKET = 12;
    private static final int OP_BITS = 4;
    private static final int STACK = 64;

    private static final int THOUSAND = 1000;
    private static final int MOST_NUMBER = 99999;
    private static final int MOST_ANSWER = 99999999;
    private static final int NO_MEASURE = -1000;
    private static final int NO_PLACE = -1000000;
    private static final int NO_ANSWER = -1000000000;
    private static final int NOT_THERE = -2000000000;
    private static final long NO_LEAN = -1000000000000L;

    private final Book book = new Book();
    private final Book[] marks = new Book[MARKS];
    private final Reader reader = new Reader();
    private final Fit fit = new Fit();
    private final Mix mix = new Mix();

    public BlackSun() {
    }

    public boolean clock(int week) {
        if (week < book.now || week > LAST_WEEK) {
            return false;
        }
        book.now = week;
        return true;
    }

    public int star(int x, int y, int bright) {
        boolean isSun = x == 0 && y == 0;
        if (isSun || !isWithin(x, -9, 9) || !isWithin(y, -9, 9) || !isWithin(bright, 0, 99)) {
            return NONE;
        }
        return book.stars.put(x, y, bright);
    }

    public int stars(int k, int what) {
        if (!book.stars.has(k)) {
            return NO_MEASURE;
        }
        switch (what) {
            case 0:
                return book.stars.x[k];
            case 1:
                return book.stars.y[k];
            case 2:
                return book.stars.bright[k];
            case 3:
                return book.stars.far(k);
            default:
                return NO_MEASURE;
        }
    }

    public int plate(int island, int kind, int heat) {
        if (!isIsland(island) || !isWithin(kind, DARK, CHECK) || !isWithin(heat, 0, 99)) {
            return NONE;
        }
        return book.plates.put(island, kind, heat);
    }

    public int image(int plate, int star, int hand, int dx, int dy) {
        if (!book.plates.has(plate) || !book.stars.has(star) || !isHand(hand)) {
            return NONE;
        }
        if (!isWithin(dx, -299, 299) || !isWithin(dy, -299, 299)) {
            return NONE;
        }
        return book.images.put(plate, star, hand, dx, dy, book.now);
    }

    public int images(int plate, int star, int hand, int known, int what) {
        if (!isWeek(known) || !isChoice(what)) {
            return NO_MEASURE;
        }
        int image = book.images.find(plate, star, hand, known);
        if (image == NONE) {
            return NO_MEASURE;
        }
        return book.images.measured(image, what);
    }

    public int gives(int term, int star, int axis) {
        if (!isTerm(term) || !book.stars.has(star) || !isChoice(axis)) {
            return NO_MEASURE;
        }
        return book.stars.give(term, star, axis);
    }

    public int feed(int a, int b, int c, int d, int e) {
        if (reader.length + 4 * TAPE_NUMBERS > TAPE_BYTES) {
            return NONE;
        }
        reader.append(a);
        reader.append(b);
        reader.append(c);
        reader.append(d);
        reader.append(e);
        return reader.length;
    }

    public int end(int n) {
        if (!isWithin(n, 0, reader.length)) {
            return NONE;
        }
        reader.length = n;
        return n;
    }

    public int way() {
        if (book.wayCount >= WAYS) {
            return NONE;
        }
        Way made = reader.readWay();
        reader.length = 0;
        if (made == null) {
            return -2 - reader.fault;
        }
        book.ways[book.wayCount] = made;
        book.wayCount++;
        return book.wayCount - 1;
    }

    public int ways(int way, int term) {
        Way asked = book.wayAt(way);
        if (asked == null || !isTerm(term)) {
            return NONE;
        }
        return asked.doing[term];
    }

    public int takes(int way, int known, int k) {
        Way asked = book.wayAt(way);
        if (asked == null || !isWeek(known)) {
            return NONE;
        }
        fit.take(book, asked, known);
        if (k == NONE) {
            return fit.takenCount;
        }
        return isWithin(k, 0, fit.takenCount - 1) ? fit.taken[k] : NONE;
    }

    public int answer(int way, int term, int known) {
        Way asked = book.wayAt(way);
        if (asked == null || !isTerm(term) || !isWeek(known)) {
            return NOT_THERE;
        }
        return answerOf(asked, term, known);
    }

    public long miss(int way, int known) {
        Way asked = book.wayAt(way);
        if (asked == null || !isWeek(known)) {
            return NONE;
        }
        if (!fit.open(book, asked, known) || !fit.solveAll()) {
            return NONE;
        }
        return fit.missed();
    }

    public int each(int way, int known, int what, int k) {
        Way asked = book.wayAt(way);
        if (asked == null || !isWeek(known) || !isChoice(what)) {
            return NOT_THERE;
        }
        if (what == 0 ? !book.plates.has(k) : !book.stars.has(k)) {
            return NOT_THERE;
        }
        int group = what == 0 ? k : PLATES + k;
        if (!fit.open(book, asked, known) || !fit.solveWithout(group)) {
            return NO_ANSWER;
        }
        return fit.number[LIGHT];
    }

    public int ruled(int way, int term, int known, int number, int what) {
        Way asked = book.wayAt(way);
        if (asked == null || !isTerm(term) || asked.doing[term] != FITTED || !isWeek(known)) {
            return NOT_THERE;
        }
        if (!isWithin(number, -MOST_NUMBER, MOST_NUMBER) || !isChoice(what)) {
            return NOT_THERE;
        }
        if (!fit.open(book, asked, known)) {
            return NO_ANSWER;
        }
        int left = fit.nearestSet(book, term, number);
        if (left == NONE) {
            return NO_ANSWER;
        }
        return what == 0 ? left : fit.nearestAnswer;
    }

    public int three(int way, int known, int a, int b, int c) {
        Way asked = book.wayAt(way);
        if (asked == null || !isWeek(known) || !areThree(a, b, c)) {
            return NONE;
        }
        return fit.leastOfThree(book, asked, known, a, b, c);
    }

    public long mixed(int plate, int known, int part) {
        if (!book.plates.has(plate) || !isWeek(known) || !isChoice(part)) {
            return NONE;
        }
        mix.gather(book, plate, known);
        return lowest(mix.above(), mix.below(), part);
    }

    public int parter(int plate, int known) {
        if (!book.plates.has(plate) || !isWeek(known)) {
            return NONE;
        }
        return mix.bestParter(book, plate, known);
    }

    public int usable(int plate, int known, int off) {
        if (!book.plates.has(plate) || book.plates.kind[plate] != DARK) {
            return NONE;
        }
        if (!isWeek(known) || !isWithin(off, 0, 99)) {
            return NONE;
        }
        return book.hasCheckNear(plate, known, off) ? 1 : 0;
    }

    public boolean tell(int hand, int week) {
        if (!isHand(hand) || !isWithin(week, 0, book.now)) {
            return false;
        }
        book.knowsFrom[hand] = Math.min(book.knowsFrom[hand], week);
        return true;
    }

    public int knows(int hand, int week) {
        if (!isHand(hand) || !isWeek(week)) {
            return NONE;
        }
        return book.hasKnowledge(hand, week) ? 1 : 0;
    }

    public long leans(int hand, int week, int what, int part) {
        if (!isHand(hand) || !isWeek(week) || !isChoice(what) || !isChoice(part)) {
            return NO_LEAN;
        }
        Lean lean = new Lean();
        lean.gather(book, hand, week, what);
        return lowest(lean.above, lean.below, part);
    }

    public int joined(int way, int known, int a, int b) {
        Way asked = book.wayAt(way);
        if (asked == null || !isWeek(known) || !areTwoIslands(a, b)) {
            return NOT_THERE;
        }
        if (!fit.open(book, asked, known) || !fit.solveIsland(book, a)) {
            return NO_ANSWER;
        }
        long images = fit.solvedImages();
        long weighed = images * fit.number[LIGHT];
        if (!fit.solveIsland(book, b)) {
            return NO_ANSWER;
        }
        images += fit.solvedImages();
        weighed += fit.solvedImages() * fit.number[LIGHT];
        return images <= 0 ? NO_ANSWER : (int) Math.floorDiv(weighed, images);
    }

    public int quarrel(int way, int known, int a, int b, int off) {
        Way asked = book.wayAt(way);
        if (asked == null || !isWeek(known) || !areTwoIslands(a, b) || !isWithin(off, 0, MOST_NUMBER)) {
            return NONE;
        }
        if (!fit.open(book, asked, known) || !fit.solveIsland(book, a)) {
            return 0;
        }
        int first = fit.number[LIGHT];
        if (!fit.solveIsland(book, b)) {
            return 0;
        }
        return isNear(first, fit.number[LIGHT], off) ? 0 : 1;
    }

    public int say(int way, int number) {
        if (book.wayAt(way) == null || !isWithin(number, -MOST_NUMBER, MOST_NUMBER)) {
            return NONE;
        }
        return book.putSaid(way, number);
    }

    public int could(int said, int off, boolean later) {
        if (!isWithin(said, 0, book.saidCount - 1) || !isWithin(off, 0, MOST_NUMBER)) {
            return NONE;
        }
        Way asked = book.wayAt(book.saidWay[said]);
        if (asked == null) {
            return NONE;
        }
        int answer = answerOf(asked, LIGHT, later ? book.now : book.saidWeek[said]);
        return answer != NO_ANSWER && isNear(answer, book.saidNumber[said], off) ? 1 : 0;
    }

    public int field(int minutes, int stars) {
        // A shift of zeros from above also refuses the sign bit, which no star has.
        if (!isWithin(minutes, 1, 99) || stars >>> book.stars.count != 0) {
            return NONE;
        }
        return book.putField(minutes, stars);
    }

    public int planned(int minutes, int what) {
        if (!isWithin(minutes, 1, 999) || !isWithin(what, 0, 2)) {
            return NONE;
        }
        int set = book.bestFields(minutes);
        switch (what) {
            case 0:
                return set;
            case 1:
                return book.worthOf(set);
            default:
                return book.minutesOf(set);
        }
    }

    public int right(int way, int seed, int law, int slip, int n, int off) {
        Way asked = book.wayAt(way);
        if (asked == null || seed < 0 || !isWithin(law, 0, 9999) || !isWithin(slip, 0, 99)) {
            return NONE;
        }
        if (!isWithin(n, 1, 50) || !isWithin(off, 0, MOST_NUMBER)) {
            return NONE;
        }
        if (!fit.open(book, asked, book.now)) {
            return 0;
        }
        return fit.rightWorlds(book, seed, law, slip, n, off);
    }

    public int span(int way, int known, int what) {
        Way asked = book.wayAt(way);
        if (asked == null || !isWeek(known) || !isChoice(what)) {
            return NOT_THERE;
        }
        return fit.open(book, asked, known) ? fit.farthest(what == 1) : NO_ANSWER;
    }

    public int named(int known, int a, int b, int c, int k) {
        if (!isWeek(known) || !areThree(a, b, c) || !isWithin(k, 0, 3)) {
            return NONE;
        }
        int wanted = k == 3 ? -2 : k;
        int found = 0;
        for (int i = 0; i < book.wayCount; i++) {
            Way asked = book.wayAt(i);
            if (asked != null && fit.leastOfThree(book, asked, known, a, b, c) == wanted) {
                found++;
            }
        }
        return found;
    }

    public boolean glass(int island, int term, int cold, int more) {
        if (!isIsland(island) || !isTerm(term) || term == LIGHT) {
            return false;
        }
        if (!isWithin(cold, -9999, 9999) || !isWithin(more, -99, 99)) {
            return false;
        }
        book.cold[island * TERMS + term] = cold;
        book.more[island * TERMS + term] = more;
        return true;
    }

    public int stands(int plate, int star, int light, int axis) {
        if (!book.plates.has(plate) || !book.stars.has(star) || !isNumber(light) || !isChoice(axis)) {
            return NO_PLACE;
        }
        book.warm(plate, book.plates.heat[plate], light);
        return book.standing(star, axis);
    }

    public long off(int plate, int known, int light) {
        if (!book.plates.has(plate) || !isWeek(known) || !isNumber(light)) {
            return NONE;
        }
        book.warm(plate, book.plates.heat[plate], light);
        return book.squaresOff(plate, known);
    }

    public int heat(int plate, int known, int light) {
        if (!book.plates.has(plate) || !isWeek(known) || !isNumber(light)) {
            return NONE;
        }
        return book.images.isOnPlate(plate, known) ? book.likeliestHeat(plate, known, light) : NONE;
    }

    public int again(int a, int b, int week, int what) {
        if (!isHand(a) || !isHand(b) || a == b || !isWeek(week) || !isWithin(what, 0, 5)) {
            return NO_PLACE;
        }
        Moves moves = new Moves();
        moves.gather(book.images, a, b, week);
        return moves.told(what);
    }

    public int mark(int k) {
        if (!isWithin(k, 0, MARKS - 1)) {
            return NONE;
        }
        Book kept = marks[k];
        if (kept == null) {
            kept = new Book();
            marks[k] = kept;
        }
        kept.copyFrom(book);
        return book.now;
    }

    public int back(int k) {
        if (!isWithin(k, 0, MARKS - 1)) {
            return NONE;
        }
        Book kept = marks[k];
        if (kept == null) {
            return NONE;
        }
        book.copyFrom(kept);
        return book.now;
    }

    public int count(int what) {
        switch (what) {
            case 0:
                return book.now;
            case 1:
                return book.stars.count;
            case 2:
                return book.plates.count;
            case 3:
                return book.images.count;
            case 4:
                return book.wayCount;
            case 5:
                return book.saidCount;
            case 6:
                return book.fieldCount;
            case 7:
                return reader.length;
            default:
                return NONE;
        }
    }

    private int answerOf(Way asked, int term, int known) {
        return fit.open(book, asked, known) && fit.solveAll() ? fit.number[term] : NO_ANSWER;
    }

    private static boolean isWithin(int value, int least, int most) {
        return value >= least && value <= most;
    }

    private static boolean isWeek(int week) {
        return isWithin(week, 0, LAST_WEEK);
    }

    private static boolean isTerm(int term) {
        return isWithin(term, 0, TERMS - 1);
    }

    private static boolean isHand(int hand) {
        return isWithin(hand, 0, HANDS - 1);
    }

    private static boolean isIsland(int island) {
        return isWithin(island, 0, ISLANDS - 1);
    }

    private static boolean isNumber(int number) {
        return isWithin(number, 0, MOST_NUMBER);
    }

    private static boolean isChoice(int what) {
        return what == 0 || what == 1;
    }

    private static boolean areThree(int a, int b, int c) {
        return isNumber(a) && isNumber(b) && isNumber(c);
    }

    private static boolean areTwoIslands(int a, int b) {
        return isIsland(a) && isIsland(b) && a != b;
    }

    private static boolean isNear(int a, int b, int off) {
        return Math.abs((long) a - b) <= off;
    }

    private static long lowest(long above, long below, int part) {
        if (above == 0 || below <= 0) {
            return part;
        }
        long common = commonDivisor(Math.abs(above), below);
        if (common <= 0) {
            return part;
        }
        return (part == 0 ? above : below) / common;
    }

    private static long commonDivisor(long a, long b) {
        long greater = a;
        long smaller = b;
        // Euclid's steps on longs are fewer than a hundred.
        for (int i = 0; i < 100 && smaller != 0; i++) {
            long rest = greater % smaller;
            greater = smaller;
            smaller = rest;
        }
        return greater;
    }

    private static final class Stars {
        int count;
        final int[] x = new int[STARS];
        final int[] y = new int[STARS];
        final int[] bright = new int[STARS];

        int put(int newX, int newY, int newBright) {
            if (count >= STARS) {
                return NONE;
            }
            x[count] = newX;
            y[count] = newY;
            bright[count] = newBright;
            count++;
            return count - 1;
        }

        boolean has(int star) {
            return isWithin(star, 0, count - 1);
        }

        int far(int star) {
            return x[star] * x[star] + y[star] * y[star];
        }

        int give(int term, int star, int axis) {
            int along = axis == 0 ? x[star] : y[star];
            switch (term) {
                case EAST:
                    return axis == 0 ? 1 : 0;
                case NORTH:
                    return axis == 0 ? 0 : 1;
                case SCALE:
                    return along;
                case TURN:
                    return axis == 0 ? -y[star] : x[star];
                case LIGHT:
                    int far = x[star] * x[star] + y[star] * y[star];
                    return far == 0 ? 0 : LIGHT_PULL * along / far;
                case BEND:
                    return axis == 0 ? x[star] * y[star] : 0;
                default:
                    return 0;
            }
        }

        int lightSquared(int star) {
            int inX = give(LIGHT, star, 0);
            int inY = give(LIGHT, star, 1);
            return inX * inX + inY * inY;
        }

        void copyFrom(Stars other) {
            count = other.count;
            System.arraycopy(other.x, 0, x, 0, STARS);
            System.arraycopy(other.y, 0, y, 0, STARS);
            System.arraycopy(other.bright, 0, bright, 0, STARS);
        }
    }

    private static final class Plates {
        int count;
        final int[] island = new int[PLATES];
        final int[] kind = new int[PLATES];
        final int[] heat = new int[PLATES];

        int put(int newIsland, int newKind, int newHeat) {
            if (count >= PLATES) {
                return NONE;
            }
            island[count] = newIsland;
            kind[count] = newKind;
            heat[count] = newHeat;
            count++;
            return count - 1;
        }

        boolean has(int plate) {
            return isWithin(plate, 0, count - 1);
        }

        void copyFrom(Plates other) {
            count = other.count;
            System.arraycopy(other.island, 0, island, 0, PLATES);
            System.arraycopy(other.kind, 0, kind, 0, PLATES);
            System.arraycopy(other.heat, 0, heat, 0, PLATES);
        }
    }

    private static final class Images {
        private static final int NEVER = LAST_WEEK + 1;

        int count;
        final int[] plate = new int[IMAGES];
        final int[] star = new int[IMAGES];
        final int[] hand = new int[IMAGES];
        final int[] dx = new int[IMAGES];
        final int[] dy = new int[IMAGES];
        final int[] week = new int[IMAGES];
        /** The week from which the image counts no more: kept so that no question searches for a later telling. */
        final int[] until = new int[IMAGES];

        int put(int onPlate, int ofStar, int byHand, int newDx, int newDy, int now) {
            if (count >= IMAGES) {
                return NONE;
            }
            int before = find(onPlate, ofStar, byHand, now);
            if (before != NONE) {
                until[before] = now;
            }
            plate[count] = onPlate;
            star[count] = ofStar;
            hand[count] = byHand;
            dx[count] = newDx;
            dy[count] = newDy;
            week[count] = now;
            until[count] = NEVER;
            count++;
            return count - 1;
        }

        boolean isKnown(int image, int known) {
            return week[image] <= known && known < until[image];
        }

        int find(int onPlate, int ofStar, int byHand, int known) {
            for (int i = 0; i < count; i++) {
                if (plate[i] == onPlate && star[i] == ofStar && hand[i] == byHand && isKnown(i, known)) {
                    return i;
                }
            }
            return NONE;
        }

        int measured(int image, int axis) {
            return axis == 0 ? dx[image] : dy[image];
        }

        boolean isOnPlate(int onPlate, int known) {
            for (int i = 0; i < count; i++) {
                if (plate[i] == onPlate && isKnown(i, known)) {
                    return true;
                }
            }
            return false;
        }

        int starsOnPlate(int onPlate, int known) {
            int set = 0;
            for (int i = 0; i < count; i++) {
                if (plate[i] == onPlate && isKnown(i, known)) {
                    set |= 1 << star[i];
                }
            }
            return set;
        }

        void copyFrom(Images other) {
            count = other.count;
            System.arraycopy(other.plate, 0, plate, 0, IMAGES);
            System.arraycopy(other.star, 0, star, 0, IMAGES);
            System.arraycopy(other.hand, 0, hand, 0, IMAGES);
            System.arraycopy(other.dx, 0, dx, 0, IMAGES);
            System.arraycopy(other.dy, 0, dy, 0, IMAGES);
            System.arraycopy(other.week, 0, week, 0, IMAGES);
            System.arraycopy(other.until, 0, until, 0, IMAGES);
        }
    }

    /** All that a mark keeps, and what can be asked of it without a way. */
    private static final class Book {
        int now;
        final Stars stars = new Stars();
        final Plates plates = new Plates();
        final Images images = new Images();
        int wayCount;
        final Way[] ways = new Way[WAYS];
        int saidCount;
        final int[] saidWay = new int[SAID];
        final int[] saidWeek = new int[SAID];
        final int[] saidNumber = new int[SAID];
        int fieldCount;
        final int[] fieldMinutes = new int[FIELDS];
        final int[] fieldStars = new int[FIELDS];
        final int[] cold = new int[ISLANDS * TERMS];
        final int[] more = new int[ISLANDS * TERMS];
        final int[] knowsFrom = new int[HANDS];
        private final int[] warmed = new int[TERMS];

        Book() {
            for (int i = 0; i < HANDS; i++) {
                knowsFrom[i] = LAST_WEEK + 1;
            }
        }

        Way wayAt(int way) {
            return isWithin(way, 0, wayCount - 1) ? ways[way] : null;
        }

        int kindOf(int image) {
            return plates.kind[images.plate[image]];
        }

        boolean hasKnowledge(int hand, int week) {
            return knowsFrom[hand] <= week;
        }

        int putSaid(int way, int number) {
            if (saidCount >= SAID) {
                return NONE;
            }
            saidWay[saidCount] = way;
            saidWeek[saidCount] = now;
            saidNumber[saidCount] = number;
            saidCount++;
            return saidCount - 1;
        }

        int putField(int minutes, int starSet) {
            if (fieldCount >= FIELDS) {
                return NONE;
            }
            fieldMinutes[fieldCount] = minutes;
            fieldStars[fieldCount] = starSet;
            fieldCount++;
            return fieldCount - 1;
        }

        int termOf(int term, int image, int axis) {
            if (term == LIGHT && kindOf(image) == NIGHT) {
                return 0;
            }
            return stars.give(term, images.star[image], axis);
        }

        /** What a word of a test asks; the numbers are the places of the words in Reader.FACTS. */
        int factOf(int word, int image) {
            int plate = images.plate[image];
            int star = images.star[image];
            switch (word) {
                case 0:
                    return plate;
                case 1:
                    return plates.island[plate];
                case 2:
                    return plates.kind[plate];
                case 3:
                    return plates.heat[plate];
                case 4:
                    return star;
                case 5:
                    return stars.bright[star];
                case 6:
                    return stars.far(star);
                case 7:
                    return stars.x[star];
                case 8:
                    return stars.y[star];
                case 9:
                    return images.dx[image];
                case 10:
                    return images.dy[image];
                case 11:
                    return images.week[image];
                default:
                    return images.hand[image];
            }
        }

        boolean hasCheckNear(int plate, int known, int off) {
            for (int p = 0; p < plates.count; p++) {
                boolean fits = plates.kind[p] == CHECK && plates.island[p] == plates.island[plate]
                        && isNear(plates.heat[p], plates.heat[plate], off);
                if (fits && images.isOnPlate(p, known)) {
                    return true;
                }
            }
            return false;
        }

        /** Sets what each term amounts to on a plate, so that it is not worked out anew for each star. */
        void warm(int plate, int heat, int light) {
            int glass = plates.island[plate] * TERMS;
            for (int term = 0; term < TERMS; term++) {
                warmed[term] = cold[glass + term] + heat * more[glass + term];
            }
            warmed[LIGHT] = plates.kind[plate] == NIGHT ? 0 : light;
        }

        int standing(int star, int axis) {
            int all = 0;
            for (int term = 0; term < TERMS; term++) {
                if (warmed[term] != 0) {
                    all += warmed[term] * stars.give(term, star, axis) / THOUSAND;
                }
            }
            return all;
        }

        long squaresOff(int plate, int known) {
            long squares = 0;
            for (int i = 0; i < images.count; i++) {
                if (images.plate[i] == plate && images.isKnown(i, known)) {
                    long inX = images.dx[i] - standing(images.star[i], 0);
                    long inY = images.dy[i] - standing(images.star[i], 1);
                    squares += inX * inX + inY * inY;
                }
            }
            return squares;
        }

        int likeliestHeat(int plate, int known, int light) {
            int best = 0;
            long least = -1;
            for (int heat = 0; heat <= 99; heat++) {
                warm(plate, heat, light);
                long squares = squaresOff(plate, known);
                if (least < 0 || squares < least) {
                    least = squares;
                    best = heat;
                }
            }
            return best;
        }

        int bestFields(int minutes) {
            int best = 0;
            int bestWorth = 0;
            int bestMinutes = 0;
            for (int set = 1; set < 1 << fieldCount; set++) {
                int needed = minutesOf(set);
                if (needed > minutes) {
                    continue;
                }
                int worth = worthOf(set);
                if (worth > bestWorth || worth == bestWorth && needed < bestMinutes) {
                    best = set;
                    bestWorth = worth;
                    bestMinutes = needed;
                }
            }
            return best;
        }

        int minutesOf(int set) {
            int all = 0;
            for (int i = 0; i < fieldCount; i++) {
                if ((set >> i & 1) != 0) {
                    all += fieldMinutes[i];
                }
            }
            return all;
        }

        int worthOf(int set) {
            int seen = 0;
            for (int i = 0; i < fieldCount; i++) {
                if ((set >> i & 1) != 0) {
                    seen |= fieldStars[i];
                }
            }
            int worth = 0;
            for (int star = 0; star < stars.count; star++) {
                if ((seen >> star & 1) != 0) {
                    worth += stars.lightSquared(star);
                }
            }
            return worth;
        }

        void copyFrom(Book other) {
            now = other.now;
            stars.copyFrom(other.stars);
            plates.copyFrom(other.plates);
            images.copyFrom(other.images);
            wayCount = other.wayCount;
            for (int i = 0; i < WAYS; i++) {
                ways[i] = other.ways[i];
            }
            saidCount = other.saidCount;
            System.arraycopy(other.saidWay, 0, saidWay, 0, SAID);
            System.arraycopy(other.saidWeek, 0, saidWeek, 0, SAID);
            System.arraycopy(other.saidNumber, 0, saidNumber, 0, SAID);
            fieldCount = other.fieldCount;
            System.arraycopy(other.fieldMinutes, 0, fieldMinutes, 0, FIELDS);
            System.arraycopy(other.fieldStars, 0, fieldStars, 0, FIELDS);
            System.arraycopy(other.cold, 0, cold, 0, ISLANDS * TERMS);
            System.arraycopy(other.more, 0, more, 0, ISLANDS * TERMS);
            System.arraycopy(other.knowsFrom, 0, knowsFrom, 0, HANDS);
        }
    }

    /** A way as read; it never changes, so that marks may share it. */
    private static final class Way {
        final int[] doing;
        final int[] held;
        final int hand;
        /** The tests of all leaves, joined by or, as steps over a stack. */
        private final int[] steps;

        Way(int[] doing, int[] held, int hand, int[] steps) {
            this.doing = doing;
            this.held = held;
            this.hand = hand;
            this.steps = steps;
        }

        boolean isReading(int byHand) {
            return hand == NONE || hand == byHand;
        }

        boolean isLeaving(Book book, int image, int[] stack) {
            int top = 0;
            for (int i = 0; i < steps.length; i++) {
                int op = steps[i] & (1 << OP_BITS) - 1;
                if (op == OP_NUMBER || op == OP_WORD) {
                    if (top >= stack.length) {
                        return false;
                    }
                    int operand = steps[i] >> OP_BITS;
                    stack[top] = op == OP_NUMBER ? operand : book.factOf(operand, image);
                    top++;
                } else if (op == OP_NOT) {
                    if (top < 1) {
                        return false;
                    }
                    stack[top - 1] = 1 - stack[top - 1];
                } else {
                    if (top < 2) {
                        return false;
                    }
                    top--;
                    stack[top - 1] = combine(op, stack[top - 1], stack[top]);
                }
            }
            return top == 1 && stack[0] == 1;
        }

        private static int combine(int op, int a, int b) {
            switch (op) {
                case OP_PLUS:
                    return a + b;
                case OP_MINUS:
                    return a - b;
                case OP_BELOW:
                    return a < b ? 1 : 0;
                case OP_AT_MOST:
                    return a <= b ? 1 : 0;
                case OP_EQUAL:
                    return a == b ? 1 : 0;
                case OP_AT_LEAST:
                    return a >= b ? 1 : 0;
                case OP_ABOVE:
                    return a > b ? 1 : 0;
                case OP_AND:
                    return a & b;
                default:
                    return a | b;
            }
        }
    }

    /** The tape, and the reading of a way from it. */
    private static final class Reader {
        private static final String CLAUSES = "fit hold check leave hand ";
        private static final String NAMES = "east north scale turn light bend ";
        private static final String FACTS = "plate island kind heat star bright far x y dx dy week hand ";

        private static final int CANNOT_STAND = 0;
        private static final int BAD_NUMBER = 1;
        private static final int TOO_DEEP = 2;
        private static final int TOO_MANY = 3;
        private static final int THIRTEENTH = 4;
        private static final int NAMED_BEFORE = 5;

        private static final int MOST_CLAUSES = 12;
        private static final int MOST_DEEP = 10;
        private static final int MOST_COUNTED = 60;
        private static final int MOST_DIGITS = 5;

        // Where a test is read: what may come next depends on it.
        private static final int AT_FACT = 0;
        private static final int AT_LEFT = 1;
        private static final int AFTER_LEFT = 2;
        private static final int AT_RIGHT = 3;
        private static final int AFTER_RIGHT = 4;
        private static final int AFTER_BRACKET = 5;
        private static final int AT_END = 6;

        int length;
        int fault;
        private final int[] tape = new int[TAPE_BYTES];
        private int place;
        private int counted;
        private int fitted;
        private int hand;
        private int state;
        private int deep;
        private int waitingCount;
        private final int[] waiting = new int[STACK];
        private int stepCount;
        private final int[] steps = new int[TAPE_BYTES];
        private final int[] doing = new int[TERMS];
        private final int[] held = new int[TERMS];

        void append(int number) {
            for (int shift = 24; shift >= 0 && length < TAPE_BYTES; shift -= 8) {
                tape[length] = number >> shift & 255;
                length++;
            }
        }

        /** The way that the tape tells; null, with its fault set, if there is one. */
        Way readWay() {
            forget();
            for (int clause = 0; clause <= MOST_CLAUSES; clause++) {
                if (!readClause(clause)) {
                    return null;
                }
                int sign = next();
                if (sign == NONE) {
                    return new Way(doing.clone(), held.clone(), hand, copyOfSteps());
                }
                if (sign != ';') {
                    fail(place, CANNOT_STAND);
                    return null;
                }
                place++;
            }
            return null;
        }

        private void forget() {
            fault = 0;
            place = 0;
            counted = 0;
            fitted = 0;
            hand = NONE;
            stepCount = 0;
            for (int term = 0; term < TERMS; term++) {
                doing[term] = NOT_NAMED;
                held[term] = 0;
            }
        }

        private int[] copyOfSteps() {
            int[] copy = new int[stepCount];
            System.arraycopy(steps, 0, copy, 0, stepCount);
            return copy;
        }

        private boolean readClause(int before) {
            next();
            int start = place;
            int clause = takeWord(CLAUSES);
            if (clause == NONE) {
                return fail(start, CANNOT_STAND);
            }
            if (before >= MOST_CLAUSES) {
                return fail(start, THIRTEENTH);
            }
            switch (clause) {
                case 0:
                    return readTerm(FITTED);
                case 1:
                    return readTerm(HELD);
                case 2:
                    return readTerm(CHECKED);
                case 3:
                    return readLeave();
                default:
                    return readHand(start);
            }
        }

        private boolean readTerm(int how) {
            next();
            int start = place;
            int term = takeWord(NAMES);
            if (term == NONE) {
                return fail(start, CANNOT_STAND);
            }
            if (doing[term] != NOT_NAMED || how == FITTED && fitted == MOST_FITTED) {
                return fail(start, NAMED_BEFORE);
            }
            doing[term] = how;
            if (how == FITTED) {
                fitted++;
            }
            return how != HELD || readHeld(term);
        }

        private boolean readHeld(int term) {
            boolean isBelow = next() == '-';
            if (isBelow) {
                place++;
            }
            int number = readNumber(MOST_NUMBER);
            if (number == NONE) {
                return false;
            }
            held[term] = isBelow ? -number : number;
            return true;
        }

        private boolean readHand(int start) {
            if (hand != NONE) {
                return fail(start, NAMED_BEFORE);
            }
            next();
            hand = readNumber(HANDS - 1);
            return hand != NONE;
        }

        private boolean readLeave() {
            next();
            if (takeWord("if ") == NONE) {
                return fail(place, CANNOT_STAND);
            }
            boolean isFirst = stepCount == 0;
            waitingCount = 0;
            deep = 0;
            state = AT_FACT;
            // Each turn but the last reads a byte at least.
            for (int i = 0; i <= TAPE_BYTES && state != AT_END; i++) {
                boolean isOperand = state == AT_FACT || state == AT_LEFT || state == AT_RIGHT;
                if (!(isOperand ? readOperand() : readOperator())) {
                    return false;
                }
            }
            if (!isFirst) {
                step(OP_OR, 0);
            }
            return true;
        }

        private boolean readOperand() {
            boolean isBracket = next() == '[';
            int start = place;
            if (state == AT_FACT && isBracket) {
                place++;
                return openDeeper(start, OP_BRACKET);
            }
            if (state == AT_FACT && takeWord("not ") != NONE) {
                return openDeeper(start, OP_NOT);
            }
            state = state == AT_RIGHT ? AFTER_RIGHT : AFTER_LEFT;
            return readValue();
        }

        private boolean openDeeper(int start, int op) {
            if (deep >= MOST_DEEP) {
                return fail(start, TOO_DEEP);
            }
            deep++;
            await(op);
            return true;
        }

        private boolean readOperator() {
            int sign = next();
            if (state != AFTER_BRACKET && (sign == '+' || sign == '-')) {
                place++;
                bind(OP_MINUS);
                await(sign == '+' ? OP_PLUS : OP_MINUS);
                state = state == AFTER_LEFT ? AT_LEFT : AT_RIGHT;
                return true;
            }
            if (state == AFTER_LEFT) {
                return readSign(sign);
            }
            boolean isAnd = takeWord("and ") != NONE;
            if (isAnd || takeWord("or ") != NONE) {
                int op = isAnd ? OP_AND : OP_OR;
                bind(op);
                await(op);
                state = AT_FACT;
                return true;
            }
            return readClosing(sign);
        }

        private boolean readSign(int first) {
            if (first != '<' && first != '=' && first != '>') {
                return fail(place, CANNOT_STAND);
            }
            if (!countOneMore(place)) {
                return false;
            }
            place++;
            boolean isWide = first != '=' && place < length && tape[place] == '=';
            if (isWide) {
                place++;
            }
            bind(OP_MINUS);
            if (first == '=') {
                await(OP_EQUAL);
            } else if (first == '<') {
                await(isWide ? OP_AT_MOST : OP_BELOW);
            } else {
                await(isWide ? OP_AT_LEAST : OP_ABOVE);
            }
            state = AT_RIGHT;
            return true;
        }

        /** A bracket closes here, or else the test ends, and what follows is the clause's affair. */
        private boolean readClosing(int sign) {
            bind(OP_OR);
            if (waitingCount == 0) {
                state = AT_END;
                return true;
            }
            if (sign != ']') {
                return fail(place, CANNOT_STAND);
            }
            place++;
            waitingCount--;
            deep--;
            state = AFTER_BRACKET;
            return true;
        }

        private void await(int op) {
            if (waitingCount < STACK) {
                waiting[waitingCount] = op;
                waitingCount++;
            }
        }

        /** Makes steps of all that waits and binds as much as an op, or more. */
        private void bind(int op) {
            for (int i = waitingCount - 1; i >= 0 && waiting[i] <= op; i--) {
                step(waiting[i], 0);
                if (waiting[i] == OP_NOT) {
                    deep--;
                }
                waitingCount = i;
            }
        }

        private boolean readValue() {
            boolean isDigit = isDigit(next());
            int start = place;
            int value = isDigit ? readNumber(MOST_NUMBER) : takeWord(FACTS);
            if (value == NONE) {
                return isDigit ? false : fail(start, CANNOT_STAND);
            }
            step(isDigit ? OP_NUMBER : OP_WORD, value);
            return countOneMore(start);
        }

        private boolean countOneMore(int start) {
            counted++;
            return counted <= MOST_COUNTED || fail(start, TOO_MANY);
        }

        private int readNumber(int most) {
            int start = place;
            int digits = 0;
            int value = 0;
            while (place < length && isDigit(tape[place])) {
                // Further digits are a fault, and would not fit the value.
                if (digits < MOST_DIGITS) {
                    value = value * 10 + tape[place] - '0';
                }
                digits++;
                place++;
            }
            if (digits == 0) {
                fail(start, CANNOT_STAND);
                return NONE;
            }
            if (digits > MOST_DIGITS || value > most) {
                fail(start, BAD_NUMBER);
                return NONE;
            }
            return value;
        }

        private static boolean isDigit(int sign) {
            return sign >= '0' && sign <= '9';
        }

        /** The byte at the next place that is not blank, which is the place then; NONE at the end. */
        private int next() {
            while (place < length && tape[place] == ' ') {
                place++;
            }
            return place < length ? tape[place] : NONE;
        }

        /** Which of the list's words stands here, and steps over it; NONE, and stays, if none does. */
        private int takeWord(String list) {
            int number = 0;
            int end = place;
            boolean isSame = true;
            for (int i = 0; i < list.length(); i++) {
                char letter = list.charAt(i);
                if (letter != ' ') {
                    isSame = isSame && end < length && tape[end] == letter;
                    end++;
                } else {
                    boolean goesOn = end < length && tape[end] >= 'a' && tape[end] <= 'z';
                    if (isSame && !goesOn) {
                        place = end;
                        return number;
                    }
                    number++;
                    end = place;
                    isSame = true;
                }
            }
            return NONE;
        }

        private void step(int op, int operand) {
            if (stepCount < TAPE_BYTES) {
                steps[stepCount] = op | operand << OP_BITS;
                stepCount++;
            }
        }

        private boolean fail(int where, int why) {
            fault = 1 + 8 * where + why;
            return false;
        }
    }

    /** The fit of a way: open takes the images and makes the sums, the solve methods answer from them. */
    private static final class Fit {
        /** A row of the equations has this many places, the last of them for what is measured. */
        private static final int WIDE = MOST_FITTED + 1;
        private static final int TAKEN = MOST_FITTED * WIDE;
        private static final int SUMS = TAKEN + 1;
        /** Sums are kept by plates, by stars and of all, so that leaving out needs no second look at images. */
        private static final int ALL = PLATES + STARS;
        private static final int RULED = 8;

        int takenCount;
        final int[] taken = new int[IMAGES];
        /** Thousandths of each term, as held, of check, or as last solved. */
        final int[] number = new int[TERMS];
        int nearestAnswer;
        private int fittedCount;
        private final int[] fitted = new int[MOST_FITTED];
        private final int[] give = new int[IMAGES * 2 * MOST_FITTED];
        private final int[] settled = new int[IMAGES * 2];
        private final int[] rest = new int[IMAGES * 2];
        private final int[] lawful = new int[IMAGES * 2];
        private final long[][] sums = new long[ALL + 1][SUMS];
        private final long[] sum = new long[SUMS];
        private final int[] rulable = new int[RULED];
        private final int[] stack = new int[STACK];
        private long seed;

        void take(Book book, Way way, int known) {
            Images images = book.images;
            takenCount = 0;
            for (int i = 0; i < images.count; i++) {
                boolean isOpen = images.isKnown(i, known) && book.kindOf(i) != CHECK && way.isReading(images.hand[i]);
                if (isOpen && !way.isLeaving(book, i, stack)) {
                    taken[takenCount] = i;
                    takenCount++;
                }
            }
        }

        /** False, if a check has nothing to fit: then there is no answer. */
        boolean open(Book book, Way way, int known) {
            take(book, way, known);
            if (!settle(book, way, known, NONE)) {
                return false;
            }
            makeRows(book);
            addUp(book.images);
            return true;
        }

        /** Light is held at a number of thousandths, if there is one, whatever the way does with it. */
        private boolean settle(Book book, Way way, int known, int light) {
            fittedCount = 0;
            for (int term = 0; term < TERMS; term++) {
                boolean isHeld = term == LIGHT && light != NONE;
                int doing = isHeld ? HELD : way.doing[term];
                number[term] = isHeld ? light : way.held[term];
                if (doing == FITTED && fittedCount < MOST_FITTED) {
                    fitted[fittedCount] = term;
                    fittedCount++;
                }
                if (doing == CHECKED && !settleCheck(book, way, known, term)) {
                    return false;
                }
            }
            return true;
        }

        private boolean settleCheck(Book book, Way way, int known, int term) {
            Images images = book.images;
            long above = 0;
            long below = 0;
            for (int i = 0; i < images.count; i++) {
                if (images.isKnown(i, known) && book.kindOf(i) == CHECK && way.isReading(images.hand[i])) {
                    int inX = book.termOf(term, i, 0);
                    int inY = book.termOf(term, i, 1);
                    above += inX * images.dx[i] + inY * images.dy[i];
                    below += inX * inX + inY * inY;
                }
            }
            return put(term, above, below);
        }

        private void makeRows(Book book) {
            for (int k = 0; k < takenCount; k++) {
                int image = taken[k];
                boolean isTurned = book.kindOf(image) == NIGHT;
                for (int axis = 0; axis < 2; axis++) {
                    int row = 2 * k + axis;
                    for (int i = 0; i < fittedCount; i++) {
                        give[row * MOST_FITTED + i] = book.termOf(fitted[i], image, axis);
                    }
                    settled[row] = settledOf(book, image, axis);
                    int measured = book.images.measured(image, axis);
                    rest[row] = (isTurned ? -measured : measured) - settled[row];
                }
            }
        }

        private int settledOf(Book book, int image, int axis) {
            int all = 0;
            for (int term = 0; term < TERMS; term++) {
                // Fitted terms have no number yet, and those not named stand at 0.
                if (number[term] != 0) {
                    all += number[term] * book.termOf(term, image, axis) / THOUSAND;
                }
            }
            return all;
        }

        private void addUp(Images images) {
            for (int group = 0; group <= ALL; group++) {
                for (int i = 0; i < SUMS; i++) {
                    sums[group][i] = 0;
                }
            }
            for (int k = 0; k < takenCount; k++) {
                clearSum();
                sum[TAKEN] = 1;
                addRow(2 * k);
                addRow(2 * k + 1);
                addSum(sums[ALL], sum);
                addSum(sums[images.plate[taken[k]]], sum);
                addSum(sums[PLATES + images.star[taken[k]]], sum);
            }
        }

        private void addRow(int row) {
            int from = row * MOST_FITTED;
            for (int i = 0; i < fittedCount; i++) {
                long mine = give[from + i];
                for (int j = i; j < fittedCount; j++) {
                    sum[i * WIDE + j] += mine * give[from + j];
                }
                sum[i * WIDE + MOST_FITTED] += mine * rest[row];
            }
        }

        private void clearSum() {
            for (int i = 0; i < SUMS; i++) {
                sum[i] = 0;
            }
        }

        private static void addSum(long[] into, long[] from) {
            for (int i = 0; i < SUMS; i++) {
                into[i] += from[i];
            }
        }

        private void leaveOut(long[] from) {
            if (from[TAKEN] != 0) {
                for (int i = 0; i < SUMS; i++) {
                    sum[i] -= from[i];
                }
            }
        }

        boolean solveAll() {
            System.arraycopy(sums[ALL], 0, sum, 0, SUMS);
            return solve();
        }

        boolean solveWithout(int group) {
            System.arraycopy(sums[ALL], 0, sum, 0, SUMS);
            leaveOut(sums[group]);
            return solve();
        }

        boolean solveIsland(Book book, int island) {
            clearSum();
            for (int plate = 0; plate < book.plates.count; plate++) {
                if (book.plates.island[plate] == island) {
                    addSum(sum, sums[plate]);
                }
            }
            return solve();
        }

        long solvedImages() {
            return sum[TAKEN];
        }

        /**
         * Cramer's rule for three terms; a term that is missing is an equation of its own, 1 by 0.
         * With 100 images no result goes beyond a long (what goes between wraps, and wraps back).
         */
        private boolean solve() {
            if (sum[TAKEN] == 0) {
                return false;
            }
            long a = fittedCount > 0 ? sum[0] : 1;
            long b = sum[1];
            long c = sum[2];
            long d = fittedCount > 1 ? sum[WIDE + 1] : 1;
            long e = sum[WIDE + 2];
            long f = fittedCount > 2 ? sum[2 * WIDE + 2] : 1;
            long p = sum[MOST_FITTED];
            long q = sum[WIDE + MOST_FITTED];
            long r = sum[2 * WIDE + MOST_FITTED];
            long first = d * f - e * e;
            long second = c * e - b * f;
            long third = b * e - c * d;
            long below = a * first + b * second + c * third;
            return (fittedCount < 1 || put(fitted[0], first * p + second * q + third * r, below))
                    && (fittedCount < 2 || put(fitted[1], second * p + (a * f - c * c) * q + (b * c - a * e) * r, below))
                    && (fittedCount < 3 || put(fitted[2], third * p + (b * c - a * e) * q + (a * d - b * b) * r, below));
        }

        /** Sets a term to above by below in thousandths, downwards; false, if that is no answer. */
        private boolean put(int term, long above, long below) {
            // Sums of squares and their determinants are never below 0, and 0 where several numbers would do.
            if (below <= 0) {
                return false;
            }
            long whole = Math.floorDiv(above, below);
            // Tested before thousands are taken, so that these stay within a long.
            if (whole > MOST_ANSWER || whole < -MOST_ANSWER) {
                return false;
            }
            long thousandths = whole * THOUSAND + (above - whole * below) * THOUSAND / below;
            if (thousandths > MOST_ANSWER || thousandths < -MOST_ANSWER) {
                return false;
            }
            number[term] = (int) thousandths;
            return true;
        }

        long missed() {
            long squares = 0;
            for (int row = 0; row < 2 * takenCount; row++) {
                long fittedHere = 0;
                for (int i = 0; i < fittedCount; i++) {
                    fittedHere += (long) number[fitted[i]] * give[row * MOST_FITTED + i];
                }
                long left = rest[row] - fittedHere / THOUSAND;
                squares += left * left;
            }
            return squares;
        }

        int leastOfThree(Book book, Way way, int known, int a, int b, int c) {
            take(book, way, known);
            int best = -2;
            long least = 0;
            for (int i = 0; i < 3; i++) {
                int light = i == 0 ? a : i == 1 ? b : c;
                // A check that has nothing has nothing for the others, too.
                if (!settle(book, way, known, light)) {
                    return best;
                }
                makeRows(book);
                addUp(book.images);
                long missed = solveAll() ? missed() : NONE;
                if (missed != NONE && (best < 0 || missed < least)) {
                    best = i;
                    least = missed;
                }
            }
            return best;
        }

        /** The set of plates left out that brings a term nearest to a number; NONE, if no set has an answer. */
        int nearestSet(Book book, int term, int aim) {
            int plates = findRulable(book.plates);
            int best = NONE;
            long nearest = 0;
            for (int choice = 0; choice < 1 << plates; choice++) {
                int set = leaveOutChoice(plates, choice);
                if (!solve()) {
                    continue;
                }
                long away = Math.abs((long) number[term] - aim);
                boolean isFewer = best != NONE && Integer.bitCount(set) < Integer.bitCount(best);
                if (best == NONE || away < nearest || away == nearest && isFewer) {
                    best = set;
                    nearest = away;
                    nearestAnswer = number[term];
                }
            }
            return best;
        }

        /** A plate of which nothing is taken is passed over: a set with it is never better than that without. */
        private int findRulable(Plates plates) {
            int seen = 0;
            int found = 0;
            for (int plate = 0; plate < plates.count && seen < RULED; plate++) {
                if (plates.kind[plate] != CHECK) {
                    seen++;
                    if (sums[plate][TAKEN] != 0) {
                        rulable[found] = plate;
                        found++;
                    }
                }
            }
            return found;
        }

        private int leaveOutChoice(int plates, int choice) {
            System.arraycopy(sums[ALL], 0, sum, 0, SUMS);
            int set = 0;
            for (int i = 0; i < plates; i++) {
                if ((choice >> i & 1) != 0) {
                    leaveOut(sums[rulable[i]]);
                    set |= 1 << rulable[i];
                }
            }
            return set;
        }

        /** The greatest, or else the least, answer for light with one group left out or none. */
        int farthest(boolean isGreatest) {
            int best = solveAll() ? number[LIGHT] : NO_ANSWER;
            for (int group = 0; group < ALL; group++) {
                if (sums[group][TAKEN] != 0 && solveWithout(group)) {
                    int light = number[LIGHT];
                    if (best == NO_ANSWER || (isGreatest ? light > best : light < best)) {
                        best = light;
                    }
                }
            }
            return best;
        }

        int rightWorlds(Book book, int firstSeed, int law, int slip, int n, int off) {
            makeLawful(book, law);
            System.arraycopy(sums[ALL], 0, sum, 0, SUMS);
            seed = firstSeed;
            int found = 0;
            for (int world = 0; world < n; world++) {
                drawWorld(book, slip);
                if (solve() && isNear(number[LIGHT], law, off)) {
                    found++;
                }
            }
            return found;
        }

        private void makeLawful(Book book, int law) {
            for (int row = 0; row < 2 * takenCount; row++) {
                lawful[row] = law * book.termOf(LIGHT, taken[row / 2], row % 2) / THOUSAND;
            }
        }

        /** Only what is measured differs from world to world; the other sums stay. */
        private void drawWorld(Book book, int slip) {
            for (int i = 0; i < fittedCount; i++) {
                sum[i * WIDE + MOST_FITTED] = 0;
            }
            for (int row = 0; row < 2 * takenCount; row++) {
                int measured = lawful[row] + drawSlip(slip);
                boolean isTurned = book.kindOf(taken[row / 2]) == NIGHT;
                long here = (isTurned ? -measured : measured) - settled[row];
                for (int i = 0; i < fittedCount; i++) {
                    sum[i * WIDE + MOST_FITTED] += here * give[row * MOST_FITTED + i];
                }
            }
        }

        private int drawSlip(int slip) {
            seed = (seed * 1103515245L + 12345L) % 2147483648L;
            int width = 2 * slip + 1;
            return width <= 0 ? 0 : (int) (seed / 65536L % width) - slip;
        }
    }

    /** How far scale and light can't be told apart by some stars. */
    private static final class Mix {
        private long scale;
        private long light;
        private long both;

        void gather(Book book, int plate, int known) {
            scale = 0;
            light = 0;
            both = 0;
            int seen = book.images.starsOnPlate(plate, known);
            for (int star = 0; star < book.stars.count; star++) {
                if ((seen >> star & 1) != 0) {
                    add(book.stars, star, 1);
                }
            }
        }

        private void add(Stars stars, int star, int times) {
            for (int axis = 0; axis < 2; axis++) {
                int byScale = stars.give(SCALE, star, axis);
                int byLight = stars.give(LIGHT, star, axis);
                scale += times * byScale * byScale;
                light += times * byLight * byLight;
                both += times * byScale * byLight;
            }
        }

        long above() {
            return both * both;
        }

        long below() {
            return scale * light;
        }

        int bestParter(Book book, int plate, int known) {
            gather(book, plate, known);
            int seen = book.images.starsOnPlate(plate, known);
            int best = NONE;
            long bestAbove = 0;
            long bestBelow = 1;
            for (int star = 0; star < book.stars.count; star++) {
                if ((seen >> star & 1) == 0) {
                    add(book.stars, star, 1);
                    if (best == NONE || above() * bestBelow < bestAbove * below()) {
                        best = star;
                        bestAbove = above();
                        bestBelow = below();
                    }
                    add(book.stars, star, -1);
                }
            }
            return best;
        }
    }

    /** The mean, as above by below, of what a hand measures more than hands that do not know. */
    private static final class Lean {
        /** Every number of other hands, 1 to 7, goes into it. */
        private static final int SHARES = 420;

        long above;
        long below;

        void gather(Book book, int hand, int week, int what) {
            Images images = book.images;
            for (int i = 0; i < images.count; i++) {
                if (images.hand[i] == hand && images.isKnown(i, week)) {
                    addPlace(book, i, week, what);
                }
            }
        }

        private void addPlace(Book book, int image, int week, int what) {
            Images images = book.images;
            long others = 0;
            int hands = 0;
            for (int i = 0; i < images.count; i++) {
                boolean isThere = images.plate[i] == images.plate[image] && images.star[i] == images.star[image]
                        && images.hand[i] != images.hand[image] && images.isKnown(i, week);
                if (isThere && !book.hasKnowledge(images.hand[i], week)) {
                    others += measure(book, i, what);
                    hands++;
                }
            }
            if (hands > 0) {
                above += SHARES * measure(book, image, what) - SHARES / hands * others;
                below += SHARES;
            }
        }

        private static long measure(Book book, int image, int what) {
            int dx = book.images.dx[image];
            if (what == 0) {
                return dx;
            }
            int star = book.images.star[image];
            return book.stars.x[star] * dx + book.stars.y[star] * book.images.dy[image];
        }
    }

    /** How the images of one hand moved when another measured them again. */
    private static final class Moves {
        private int found;
        private int allDx;
        private int allDy;
        private int greatest;
        private int plate = NONE;
        private int star = NONE;

        void gather(Images images, int first, int second, int week) {
            for (int i = 0; i < images.count; i++) {
                if (images.hand[i] == first && images.isKnown(i, week)) {
                    int other = images.find(images.plate[i], images.star[i], second, week);
                    if (other != NONE) {
                        add(images, i, other);
                    }
                }
            }
        }

        private void add(Images images, int from, int to) {
            int dx = images.dx[to] - images.dx[from];
            int dy = images.dy[to] - images.dy[from];
            int square = dx * dx + dy * dy;
            found++;
            allDx += dx;
            allDy += dy;
            if (plate == NONE || square > greatest || square == greatest && isBefore(images, from)) {
                greatest = square;
                plate = images.plate[from];
                star = images.star[from];
            }
        }

        private boolean isBefore(Images images, int image) {
            return images.plate[image] < plate || images.plate[image] == plate && images.star[image] < star;
        }

        int told(int what) {
            switch (what) {
                case 0:
                    return found;
                case 1:
                    return allDx;
                case 2:
                    return allDy;
                case 3:
                    return greatest;
                case 4:
                    return plate;
                default:
                    return star;
            }
        }
    }
}
