import java.lang.management.ManagementFactory;
import java.util.Random;

/** What a run makes in memory, and that nothing but the document's exception is ever thrown. */
public final class RoomTests {
    private static final Check C = new Check();

    public static void main(String[] args) {
        wildArguments();
        room();
        C.finish();
    }

    private static final int[] WILD = {Integer.MIN_VALUE, Integer.MIN_VALUE + 1, -1073741824,
        -65536, -61, -25, -24, -10, -3, -2, -1, 0, 1, 2, 3, 4, 5, 6, 9, 10, 11, 15, 16, 22, 23,
        24, 29, 30, 35, 36, 59, 60, 61, 399, 400, 401, 998, 999, 1000, 1098, 1099, 1100,
        65536, 429496735, 1073741824, Integer.MAX_VALUE - 1, Integer.MAX_VALUE};

    private static void wildArguments() {
        C.part("wild arguments");
        Random random = new Random(7);
        for (int run = 0; run < 300; run++) {
            WhereFound x = new WhereFound();
            for (int i = 0; i < 700; i++) {
                if (i % 3 == 0) {
                    tame(x, random);
                }
                try {
                    call(x, random);
                } catch (java.util.NoSuchElementException e) {
                    C.holds("only as document says",
                        e.getStackTrace()[0].getMethodName().equals("of"));
                }
            }
        }
        C.holds("came to its end", true);
    }

    private static void tame(WhereFound x, Random r) {
        x.athlete(1 + r.nextInt(9));
        int d = x.count(1) + r.nextInt(3);
        x.file(r.nextInt(6), d, d + r.nextInt(60), 5 + r.nextInt(18), r.nextInt(2));
        x.test(r.nextInt(6), r.nextInt(2), r.nextInt(4) == 0);
        if (r.nextInt(3) == 0) {
            x.at(x.count(1), x.count(2) + 1);
        } else if (r.nextInt(3) == 0) {
            x.at(x.count(1) + 1, r.nextInt(24));
        }
    }

    private static int wild(Random r) {
        return WILD[r.nextInt(WILD.length)];
    }

    private static int call(WhereFound x, Random r) {
        int a = wild(r);
        int b = wild(r);
        int c = wild(r);
        int athlete = r.nextInt(3) == 0 ? a : r.nextInt(6);
        boolean flag = r.nextBoolean();
        switch (r.nextInt(24)) {
            case 0: return x.feed(r.nextInt(), a, b, c, r.nextInt());
            case 1: return x.end(a) ? 1 : 0;
            case 2: return x.tell();
            case 3: return x.fault();
            case 4: return x.athlete(a);
            case 5: return x.set(a, b) ? 1 : 0;
            case 6: return r.nextInt(20) == 0 ? x.at(a, b) : 0;
            case 7: return x.file(athlete, a, b, c, wild(r));
            case 8: return x.test(athlete, b, flag);
            case 9: return x.appeal(athlete, b) ? 1 : 0;
            case 10: return x.count(a);
            case 11: return x.of(athlete, b);
            case 12: return x.filed(athlete, b, c);
            case 13: return x.failure(athlete, b, c);
            case 14: return x.violation(athlete, b);
            case 15: return x.hole(athlete, b);
            case 16: return x.lot(a, b);
            case 17: return x.chance(athlete, flag);
            case 18: return x.round(a, b, c);
            case 19: return x.there(a, b, c);
            case 20: return x.danger(athlete);
            case 21: return x.easier(athlete);
            case 22: return x.without(athlete, b);
            default: return x.worst();
        }
    }

    private static long allocated() {
        return ((com.sun.management.ThreadMXBean) ManagementFactory.getThreadMXBean())
            .getThreadAllocatedBytes(Thread.currentThread().getId());
    }

    /** The room holds 7.3 million elements for all objects of a run: a full one takes 16,000. */
    private static void room() {
        C.part("room");
        allocated();
        long before = allocated();
        WhereFound x = new WhereFound();
        long empty = allocated() - before;
        for (int i = 0; i < 6; i++) {
            x.athlete(5);
        }
        for (int i = 0; i < 84; i++) {
            x.feed(0x61742030, 0x20303b20, 0x20202020, 0x20202020, 0x20202020);
            x.tell();
            x.lot(i, 6);
            x.worst();
            x.chance(0, true);
            x.round(0, -1, 1);
        }
        long full = allocated() - before;
        System.out.println("bytes of a new object " + empty + ", of a full one " + full);
        C.holds("a new object is small", empty < 20000);
        C.holds("calls make nothing but rows, once", full < 100000);
    }
}
