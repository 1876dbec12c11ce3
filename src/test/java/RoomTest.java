import java.lang.management.ManagementFactory;

/** The room that a run takes: rows are made in the constructor alone, and no call makes anything. */
public final class RoomTest {
    private static final Check CHECK = new Check();
    private static final String[] TEXTS = {
        "kind 1 lasts 2 spread 3;kind 2 lasts 1 spread 2;kind 3 lasts 4 spread 1;cross 0 with 1 to 2;",
        "gust wet+soil-3 when not (edge=1 or kind=2) and beside<2;gust 4;harm storm*2+hedges when day>5;harm 1;",
        "want 1 at 9 on 50 worth 5;want calm at 10 on 60 worth 7;want 2 at 9 on 900 worth 9;",
        "on 8 sow 0 at 16;on 8 weed 17;on 9 south;on 9 sow 1 at 11;"};

    public static void main(String[] args) {
        com.sun.management.ThreadMXBean threads = (com.sun.management.ThreadMXBean) ManagementFactory.getThreadMXBean();
        long thread = Thread.currentThread().getId();
        run(new StormSeeds());
        long before = threads.getThreadAllocatedBytes(thread);
        StormSeeds x = new StormSeeds();
        long made = threads.getThreadAllocatedBytes(thread);
        run(x);
        long after = threads.getThreadAllocatedBytes(thread);
        System.out.println("an object: " + (made - before) + " bytes, its calls: " + (after - made) + " bytes");
        CHECK.due("an object takes less than 200,000 bytes", made - before < 200000 ? 1 : 0, 1);
        CHECK.due("its calls take next to none", after - made < 4096 ? 1 : 0, 1);
        CHECK.end();
    }

    private static void tell(StormSeeds x, int k) {
        String text = TEXTS[k];
        for (int i = 0; i < text.length(); i += 20) {
            x.feed(four(text, i), four(text, i + 4), four(text, i + 8), four(text, i + 12), four(text, i + 16));
        }
        x.end(text.length());
        x.text(k);
    }

    private static int four(String text, int at) {
        int number = 0;
        for (int i = at; i < at + 4; i++) {
            number = number << 8 | (i < text.length() ? text.charAt(i) : ' ');
        }
        return number;
    }

    private static void run(StormSeeds x) {
        x.land(7, 7);
        for (int k = 0; k < 4; k++) {
            tell(x, k);
        }
        x.set(0, 0, 700);
        for (int round = 0; round < 14; round++) {
            for (int i = 0; i < 8; i++) {
                x.sow(i % 3, 8 * (i % 7) + (i + round) % 7);
            }
            x.blows(60);
            x.harms(60);
            x.meets(0);
            x.sows(0, 0);
            x.gets(0, 0, 6);
            x.weeds(1L << 9, 60, 1);
            x.calm(9, 60, 0);
            x.who(9, 3, 0);
            x.have(7);
            x.generations(3, 2);
            x.open(10, 10);
            x.game(0);
            x.image(true);
            x.days(5);
            x.undo();
            x.image(false);
            x.days(2);
            tell(x, 1);
        }
    }
}
