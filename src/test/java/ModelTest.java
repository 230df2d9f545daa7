import java.util.Random;

/** Runs of random calls, right and wrong ones, on BlackSun and on Model: every answer must be the same. */
public final class ModelTest {
    private static final int RUNS = 1500;
    private static final int CALLS = 512;

    private final Random random;
    private final BlackSun sun = new BlackSun();
    private final Model model = new Model();
    private final int quietness;
    /** A wild run has far stars, great moves and held numbers, and fills its plates: the sums grow to their most. */
    private final boolean isWild;
    private String call = "";
    private long got;
    private long due;

    private ModelTest(long seed) {
        random = new Random(seed);
        quietness = random.nextInt(4);
        isWild = random.nextInt(5) == 0;
    }

    public static void main(String[] args) {
        int wrong = 0;
        long calls = 0;
        for (int run = 0; run < RUNS && wrong < 20; run++) {
            ModelTest test = new ModelTest(run);
            StringBuilder log = new StringBuilder();
            for (int i = 0; i < CALLS; i++) {
                test.one(i);
                calls++;
                log.append(test.call).append(" -> ").append(test.got).append('\n');
                if (test.got != test.due) {
                    wrong++;
                    System.out.println("run " + run + ", call " + i + ": " + test.call + " answered " + test.got
                            + ", the model " + test.due);
                    if (args.length > 0) {
                        System.out.println(log);
                    }
                    break;
                }
            }
        }
        System.out.println(wrong == 0 ? calls + " random calls are as the model has them" : "BlackSun and the model differ");
        if (wrong != 0) {
            System.exit(1);
        }
    }

    // ---- arguments: mostly right, sometimes wrong

    private int r(int a, int b) {
        int kind = random.nextInt(60);
        if (kind == 0) {
            return a - 1;
        }
        if (kind == 1) {
            return b + 1;
        }
        if (kind == 2) {
            return random.nextInt(8) == 0 ? random.nextInt() : a;
        }
        if (kind == 3) {
            return b;
        }
        return b < a ? a : a + random.nextInt(b - a + 1);
    }

    private int star() {
        return r(0, model.count(1) - 1);
    }

    private int plate() {
        return r(0, model.count(2) - 1);
    }

    private int way() {
        return r(0, model.count(4) - 1);
    }

    private int week() {
        return random.nextInt(3) > 0 ? model.count(0) : r(0, random.nextBoolean() ? model.count(0) : 9999);
    }

    private int hand() {
        return random.nextInt(4) > 0 ? r(0, 2) : r(0, 7);
    }

    private int hairs() {
        if (isWild) {
            return random.nextBoolean() ? 299 : -299;
        }
        return random.nextInt(3) > 0 ? r(-40, 40) : r(-299, 299);
    }

    private int side() {
        return isWild ? new int[] {-9, -8, -1, 0, 1, 7, 8, 9}[random.nextInt(8)] : r(-9, 9);
    }

    private int number() {
        return random.nextInt(3) > 0 ? r(0, 2000) : r(0, 99999);
    }

    // ---- the calls

    private void is(String name, long mine, long its) {
        call = name;
        got = mine;
        due = its;
    }

    private static long bit(boolean b) {
        return b ? 1 : 0;
    }

    private void one(int i) {
        int building = i < 60 || isWild && i < 240 ? 25 : 100;
        int kind = random.nextInt(building);
        if (kind < 2) {
            int a = side(), b = side(), c = r(0, 99);
            is("star(" + a + ", " + b + ", " + c + ")", sun.star(a, b, c), model.star(a, b, c));
        } else if (kind < 4) {
            int a = r(0, random.nextBoolean() ? 1 : 3), b = random.nextInt(3) == 0 ? r(0, 2) : r(0, 1), c = r(0, 99);
            is("plate(" + a + ", " + b + ", " + c + ")", sun.plate(a, b, c), model.plate(a, b, c));
        } else if (kind < 14 + quietness) {
            int a = plate(), b = star(), c = hand(), d = hairs(), e = hairs();
            is("image(" + a + ", " + b + ", " + c + ", " + d + ", " + e + ")",
                    sun.image(a, b, c, d, e), model.image(a, b, c, d, e));
        } else if (kind < 19) {
            tellWay();
        } else if (kind < 20) {
            int a = random.nextBoolean() ? model.count(0) + random.nextInt(3) : r(model.count(0), model.count(0) + 20);
            is("clock(" + a + ")", bit(sun.clock(a)), bit(model.clock(a)));
        } else if (kind < 22) {
            int a = r(0, 3), b = r(0, 5), c = r(-9999, 9999), d = r(-99, 99);
            is("glass(" + a + ", " + b + ", " + c + ", " + d + ")", bit(sun.glass(a, b, c, d)), bit(model.glass(a, b, c, d)));
        } else if (kind < 23) {
            int a = r(1, 99), b = random.nextInt() & (1 << Math.min(30, model.count(1) + random.nextInt(2))) - 1;
            is("field(" + a + ", " + b + ")", sun.field(a, b), model.field(a, b));
        } else if (kind < 24) {
            int a = way(), b = number() * (random.nextBoolean() ? 1 : -1);
            is("say(" + a + ", " + b + ")", sun.say(a, b), model.say(a, b));
        } else if (kind < 25) {
            int a = hand(), b = r(0, model.count(0));
            is("tell(" + a + ", " + b + ")", bit(sun.tell(a, b)), bit(model.tell(a, b)));
        } else {
            ask(random.nextInt(32));
        }
    }

    private void ask(int kind) {
        int w = way(), p = plate(), t = star(), h = hand(), k = week(), two = r(0, 1);
        switch (kind) {
            case 0 -> { int a = r(0, 3); is("stars(" + t + ", " + a + ")", sun.stars(t, a), model.stars(t, a)); }
            case 1 -> is("images(" + p + ", " + t + ", " + h + ", " + k + ", " + two + ")",
                    sun.images(p, t, h, k, two), model.images(p, t, h, k, two));
            case 2 -> { int a = r(0, 5); is("gives(" + a + ", " + t + ", " + two + ")", sun.gives(a, t, two), model.gives(a, t, two)); }
            case 3 -> { int a = r(0, 5); is("ways(" + w + ", " + a + ")", sun.ways(w, a), model.ways(w, a)); }
            case 4 -> { int a = r(-1, 20); is("takes(" + w + ", " + k + ", " + a + ")", sun.takes(w, k, a), model.takes(w, k, a)); }
            case 5, 6, 7 -> { int a = r(0, 5); is("answer(" + w + ", " + a + ", " + k + ")", sun.answer(w, a, k), model.answer(w, a, k)); }
            case 8, 9 -> is("miss(" + w + ", " + k + ")", sun.miss(w, k), model.miss(w, k));
            case 10 -> { int a = two == 0 ? p : t; is("each(" + w + ", " + k + ", " + two + ", " + a + ")", sun.each(w, k, two, a), model.each(w, k, two, a)); }
            case 11 -> askRuled(w, k, two);
            case 12 -> { int a = number(), b = number(), c = number();
                is("three(" + w + ", " + k + ", " + a + ", " + b + ", " + c + ")", sun.three(w, k, a, b, c), model.three(w, k, a, b, c)); }
            case 13 -> is("mixed(" + p + ", " + k + ", " + two + ")", sun.mixed(p, k, two), model.mixed(p, k, two));
            case 14 -> is("parter(" + p + ", " + k + ")", sun.parter(p, k), model.parter(p, k));
            case 15 -> { int a = r(0, 99); is("usable(" + p + ", " + k + ", " + a + ")", sun.usable(p, k, a), model.usable(p, k, a)); }
            case 16 -> is("knows(" + h + ", " + k + ")", sun.knows(h, k), model.knows(h, k));
            case 17, 18 -> { int a = r(0, 1); is("leans(" + h + ", " + k + ", " + two + ", " + a + ")", sun.leans(h, k, two, a), model.leans(h, k, two, a)); }
            case 19 -> { int a = r(0, 3), b = r(0, 3); is("joined(" + w + ", " + k + ", " + a + ", " + b + ")", sun.joined(w, k, a, b), model.joined(w, k, a, b)); }
            case 20 -> { int a = r(0, 3), b = r(0, 3), c = number();
                is("quarrel(" + w + ", " + k + ", " + a + ", " + b + ", " + c + ")", sun.quarrel(w, k, a, b, c), model.quarrel(w, k, a, b, c)); }
            case 21 -> { int a = r(0, model.count(5) - 1), b = number();
                is("could(" + a + ", " + b + ", " + two + ")", sun.could(a, b, two == 1), model.could(a, b, two == 1)); }
            case 22 -> { int a = random.nextBoolean() ? r(1, 99) : r(1, 999), b = r(0, 2); is("planned(" + a + ", " + b + ")", sun.planned(a, b), model.planned(a, b)); }
            case 23 -> askRight(w);
            case 24 -> is("span(" + w + ", " + k + ", " + two + ")", sun.span(w, k, two), model.span(w, k, two));
            case 25 -> { int a = number(), b = number(), c = number(), d = r(0, 3);
                is("named(" + k + ", " + a + ", " + b + ", " + c + ", " + d + ")", sun.named(k, a, b, c, d), model.named(k, a, b, c, d)); }
            case 26 -> { int a = number(); is("stands(" + p + ", " + t + ", " + a + ", " + two + ")", sun.stands(p, t, a, two), model.stands(p, t, a, two)); }
            case 27 -> { int a = number(); is("off(" + p + ", " + k + ", " + a + ")", sun.off(p, k, a), model.off(p, k, a)); }
            case 28 -> { int a = number(); is("heat(" + p + ", " + k + ", " + a + ")", sun.heat(p, k, a), model.heat(p, k, a)); }
            case 29 -> { int a = hand(), b = r(0, 5); is("again(" + h + ", " + a + ", " + k + ", " + b + ")", sun.again(h, a, k, b), model.again(h, a, k, b)); }
            case 30 -> { int a = r(0, 3);
                boolean made = random.nextInt(3) > 0;
                is((made ? "mark(" : "back(") + a + ")", made ? sun.mark(a) : sun.back(a), made ? model.mark(a) : model.back(a)); }
            default -> { int a = r(0, 7); is("count(" + a + ")", sun.count(a), model.count(a)); }
        }
    }

    private void askRuled(int w, int k, int two) {
        int term = r(0, 5);
        for (int i = 0; i < 12 && model.ways(w, term) != 1; i++) {
            term = random.nextInt(6);
        }
        // The model is slow with many plates.
        int n = number() * (random.nextBoolean() ? 1 : -1);
        is("ruled(" + w + ", " + term + ", " + k + ", " + n + ", " + two + ")",
                sun.ruled(w, term, k, n, two), model.ruled(w, term, k, n, two));
    }

    private void askRight(int w) {
        int seed = random.nextInt(20) == 0 ? random.nextInt() : random.nextInt() & Integer.MAX_VALUE;
        int law = r(0, 9999), slip = r(0, random.nextBoolean() ? 99 : 5), n = r(1, 50), off = r(0, random.nextBoolean() ? 99999 : 100);
        is("right(" + w + ", " + seed + ", " + law + ", " + slip + ", " + n + ", " + off + ")",
                sun.right(w, seed, law, slip, n, off), model.right(w, seed, law, slip, n, off));
    }

    // ---- texts of ways

    private void tellWay() {
        String text = random.nextInt(12) == 0 ? crowded() : text();
        if (random.nextInt(6) == 0) {
            text = spoil(text);
        }
        if (text.length() > 400) {
            text = text.substring(0, 400);
        }
        is("end(0)", sun.end(0), model.end(0));
        for (int at = 0; at < text.length() && got == due; at += 20) {
            int[] n = new int[5];
            for (int b = 0; b < 20; b++) {
                n[b / 4] = n[b / 4] << 8 | (at + b < text.length() ? text.charAt(at + b) : random.nextInt(256));
            }
            is("feed", sun.feed(n[0], n[1], n[2], n[3], n[4]), model.feed(n));
        }
        if (got == due) {
            is("end", sun.end(text.length()), model.end(text.length()));
        }
        if (got == due) {
            is("way() of '" + text + "'", sun.way(), model.way());
        }
    }

    private String any(String... of) {
        return of[random.nextInt(of.length)];
    }

    private String blank() {
        return random.nextInt(4) == 0 ? "  " : random.nextInt(3) == 0 ? "" : " ";
    }

    private String term() {
        return any("east", "north", "scale", "turn", "light", "light", "bend");
    }

    private String text() {
        StringBuilder text = new StringBuilder();
        int clauses = 1 + random.nextInt(random.nextInt(8) == 0 ? 13 : 5);
        String left = " ";
        for (int i = 0; i < clauses; i++) {
            text.append(i > 0 ? blank() + ";" + blank() : blank());
            int kind = random.nextInt(isWild ? 6 : 10);
            String term = term();
            for (int k = 0; k < 9 && left.contains(term); k++) {
                term = term();
            }
            if (kind < 4) {
                text.append("fit ").append(term);
                left += term + " ";
            } else if (kind < 5) {
                text.append("hold ").append(term).append(" ").append(random.nextInt(4) == 0 ? "-" : "").append(digits());
                left += term + " ";
            } else if (kind < 6) {
                text.append("check ").append(term);
                left += term + " ";
            } else if (kind < 7 && !left.contains("hand")) {
                text.append("hand").append(blank()).append(random.nextInt(random.nextInt(4) == 0 ? 10 : 3));
                left += "hand ";
            } else {
                text.append("leave if ").append(test(0));
            }
        }
        return text.append(blank()).toString();
    }

    private String digits() {
        return isWild ? any("99999", "99998", "0") : String.valueOf(random.nextInt(random.nextInt(9) == 0 ? 200000 : 3000));
    }

    private String test(int depth) {
        StringBuilder test = new StringBuilder(fact(depth));
        while (random.nextInt(3) == 0) {
            test.append(" ").append(any("and", "or")).append(" ").append(fact(depth));
        }
        return test.toString();
    }

    private String fact(int depth) {
        int kind = random.nextInt(8);
        if (kind == 0 && depth < 13) {
            return "not " + fact(depth + 1);
        }
        if (kind == 1 && depth < 13) {
            return "[" + blank() + test(depth + 1) + blank() + "]";
        }
        return sum() + blank() + any("<", "<=", "=", ">=", ">") + blank() + sum();
    }

    private String sum() {
        StringBuilder sum = new StringBuilder(value());
        while (random.nextInt(4) == 0) {
            sum.append(blank()).append(any("+", "-")).append(blank()).append(value());
        }
        return sum.toString();
    }

    private String value() {
        return random.nextInt(3) == 0 ? String.valueOf(random.nextInt(random.nextInt(3) == 0 ? 101000 : 12))
                : any("plate", "island", "kind", "heat", "star", "bright", "far", "x", "y", "dx", "dy", "week", "hand");
    }

    /** Long tests, deep ones and many clauses, about the limits. */
    private String crowded() {
        StringBuilder text = new StringBuilder("leave if ");
        int kind = random.nextInt(3);
        int n = kind == 0 ? 9 + random.nextInt(3) : kind == 1 ? 18 + random.nextInt(5) : 10 + random.nextInt(4);
        if (kind == 0) {
            StringBuilder close = new StringBuilder();
            for (int i = 0; i < n; i++) {
                boolean bracket = random.nextBoolean();
                text.append(bracket ? "[" + any("", "x=1 or ", "x<0 and ") : "not ");
                close.append(bracket ? "]" : "");
            }
            return text.append("dx > 0").append(close).append(any("", " and not x=1", "]", " or [[y=1]]")).toString();
        }
        text.append("x=1");
        for (int i = 1; i < n; i++) {
            text.append(kind == 1 ? any(" or ", " and ") : ";leave if ").append(any("y=2", "dx>1", "1+x=3"));
        }
        return text.append(any("", "+1", "-x=2", "=", ";fit light")).toString();
    }

    private String spoil(String text) {
        int at = random.nextInt(text.length() + 1);
        String tail = text.substring(Math.min(text.length(), at + random.nextInt(2)));
        String put = any("", " ", ";", "x", "fit", "[", "]", "not ", "-", "+", "=", "<", "9", "123456", "A", "\0", "\u00e9", "or", "hand 1;");
        return random.nextInt(5) == 0 ? text.substring(0, at) : text.substring(0, at) + put + tail;
    }
}
