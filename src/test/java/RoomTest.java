import java.lang.management.ManagementFactory;

/** All that 512 calls make must be little: the objects of a whole run are counted and never given back. */
public final class RoomTest {
    /** Far below 600,000 objects, and 7.3 million fields and elements. */
    private static final long MOST_BYTES = 1_000_000;
    private static final com.sun.management.ThreadMXBean THREADS =
            (com.sun.management.ThreadMXBean) ManagementFactory.getThreadMXBean();

    public static void main(String[] args) {
        long worst = 0;
        for (int dear = 0; dear < 22; dear++) {
            run(dear);
            long before = THREADS.getThreadAllocatedBytes(Thread.currentThread().getId());
            run(dear);
            worst = Math.max(worst, THREADS.getThreadAllocatedBytes(Thread.currentThread().getId()) - before);
        }
        System.out.println("the dearest run of 512 calls makes " + worst + " bytes");
        if (worst > MOST_BYTES) {
            System.exit(1);
        }
    }

    private static void run(int dear) {
        BlackSun b = new BlackSun();
        int calls = 0;
        for (int i = 0; i < 30; i++) {
            b.star(i % 9 - 10 < -8 ? 5 : i % 9 + 1, i % 7 - 3, i);
        }
        for (int i = 0; i < 16; i++) {
            b.plate(i % 4, i < 9 ? 0 : i % 3, i);
        }
        for (int i = 0; i < 100; i++) {
            b.image(i % 16, i % 30, i % 8, i, -i);
        }
        calls += 146;
        while (calls + 25 < 512) {
            if (dear == 21) {
                b.mark(0);
            }
            calls += tellWay(b);
            if (dear == 21) {
                b.back(0);
            }
            for (int i = 0; i < 2; i++) {
                ask(b, dear);
                calls++;
            }
        }
    }

    /** "fit light;leave if x=1 or x=1 or ..", with sixty values and facts; twelve calls. */
    private static int tellWay(BlackSun b) {
        b.feed(0x66697420, 0x6c696768, 0x743b6c65, 0x61766520, 0x69662020);
        b.feed(0x783d3120, 0x20202020, 0x20202020, 0x20202020, 0x20202020);
        for (int i = 0; i < 8; i++) {
            b.feed(0x6f722078, 0x3d31206f, 0x7220783d, 0x31202020, 0x20202020);
        }
        b.way();
        return 12;
    }

    private static void ask(BlackSun b, int kind) {
        switch (kind) {
            case 0 -> b.answer(0, 4, 0);
            case 1 -> b.miss(0, 0);
            case 2 -> b.each(0, 0, 0, 0);
            case 3 -> b.ruled(0, 4, 0, 500, 0);
            case 4 -> b.three(0, 0, 1, 2, 3);
            case 5 -> b.mixed(0, 0, 0);
            case 6 -> b.parter(0, 0);
            case 7 -> b.usable(0, 0, 5);
            case 8 -> b.leans(0, 0, 0, 0);
            case 9 -> b.joined(0, 0, 0, 1);
            case 10 -> b.quarrel(0, 0, 0, 1, 5);
            case 11 -> b.could(b.say(0, 5), 5, true);
            case 12 -> b.planned(9, b.field(5, 7) % 2);
            case 13 -> b.right(0, 1, 500, 9, 50, 5);
            case 14 -> b.span(0, 0, 0);
            case 15 -> b.named(0, 1, 2, 3, 0);
            case 16 -> b.stands(0, 0, 0, 0);
            case 17 -> b.off(0, 0, 0);
            case 18 -> b.heat(0, 0, 0);
            case 19 -> b.again(0, 1, 0, 0);
            case 20 -> b.takes(0, 0, 0);
            default -> b.count(0);
        }
    }
}
