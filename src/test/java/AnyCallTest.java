import java.lang.management.ManagementFactory;
import java.util.Random;

/** Any call with any numbers in any state comes back, and makes nothing that would fill the room. */
public final class AnyCallTest {
    private static final int CALLS = 512;
    private static final int RUNS = 1500;
    // the rows of one object, some ten thousand fields and elements
    private static final long MOST_BYTES_FOR_ONE = 80000;
    private static final String[] TEXTS = {
        "floors 8;car 2 1 1 1 0;car 3 2 1 1 7;skip 1 3;",
        "floors 80;car 2 1 1 1 0;car 1 1 1 0 79;car 12 9 9 9 40;car 1 9 1 0 3;",
        "floors 2;car 1 1 1 0 0;",
        "cost far*9999*9999*9999/7-given when not (same=1 or idle=0) and waits<5;never when load>1;cost car;",
        "never when waits<20;cost far;",
        "cost far;"};

    private final Random random;
    private final FourCars x = new FourCars();

    private AnyCallTest(int seed) {
        random = new Random(seed);
    }

    private int any() {
        switch (random.nextInt(8)) {
            case 0:
                return random.nextInt();
            case 1:
                return Integer.MIN_VALUE + random.nextInt(3);
            case 2:
                return Integer.MAX_VALUE - random.nextInt(3);
            case 3:
                return random.nextInt(300) - 10;
            default:
                return random.nextInt(12) - 2;
        }
    }

    private void put(String text) {
        for (int i = 0; i < text.length(); i += 20) {
            int[] n = new int[5];
            for (int j = 0; j < 20; j++) {
                n[j / 4] = n[j / 4] << 8 | (i + j < text.length() ? text.charAt(i + j) : ' ');
            }
            x.feed(n[0], n[1], n[2], n[3], n[4]);
        }
    }

    private void tell() {
        x.end(0);
        int which = random.nextInt(TEXTS.length);
        put(TEXTS[which]);
        x.text(which < 3 ? 3 : random.nextInt(3));
    }

    private void call() {
        switch (random.nextInt(24)) {
            case 0 -> x.feed(any(), any(), any(), any(), any());
            case 1 -> x.end(any());
            case 2 -> x.text(any());
            case 3 -> x.fault(any());
            case 4, 5 -> x.one(any(), any(), any());
            case 6 -> x.set(any(), any(), any());
            case 7 -> x.seconds(any());
            case 8 -> x.car(any(), any());
            case 9 -> x.person(any(), any());
            case 10 -> x.cost(any(), any(), any());
            case 11 -> x.sums(any());
            case 12 -> x.thought(any(), any());
            case 13 -> x.better(any(), any());
            case 14 -> x.best(any());
            case 15 -> x.mornings(random.nextInt(4), random.nextInt(4), random.nextInt(9) / 4, any());
            case 16 -> x.fun(any(), any());
            case 17 -> x.places(any(), any());
            case 18 -> x.zones(any(), any());
            case 19 -> x.image(random.nextBoolean());
            case 20 -> x.look(any());
            case 21 -> x.one(x.look(3) + random.nextInt(20), random.nextInt(8), random.nextInt(8));
            case 22 -> x.set(random.nextInt(4), random.nextInt(4), random.nextInt(4) - 1);
            default -> {
                if (random.nextInt(4) == 0) {
                    tell();
                }
            }
        }
    }

    private static long made() {
        var bean = (com.sun.management.ThreadMXBean) ManagementFactory.getThreadMXBean();
        return bean.getThreadAllocatedBytes(Thread.currentThread().getId());
    }

    /** The dearest calls, 512 of them, on one object. */
    private static long madeByDearCalls() {
        AnyCallTest t = new AnyCallTest(1);
        t.put(TEXTS[0]);
        t.x.text(3);
        long before = made();
        FourCars x = t.x;
        for (int i = 0; i < CALLS / 16; i++) {
            x.feed(0x636f7374, 0x20666172, 0x3b202020, 0x20202020, 0x20202020);
            x.end(9);
            x.text(i % 3);
            x.one(x.look(3), i % 8, (i + 3) % 8);
            x.seconds(3);
            x.thought(0, 0);
            x.better(0, 1);
            x.best(0);
            x.mornings(0, 1, 1, 0);
            x.fun(i, 5);
            x.places(4, 10);
            x.zones(3, 10);
            x.image(i % 4 == 0);
            x.cost(i, 0, 0);
            x.sums(0);
        }
        return made() - before;
    }

    public static void main(String[] args) {
        for (int run = 0; run < RUNS; run++) {
            AnyCallTest t = new AnyCallTest(run);
            if (run % 5 != 0) {
                t.tell();
            }
            for (int i = 0; i < CALLS; i++) {
                t.call();
            }
        }
        long before = made();
        FourCars one = new FourCars();
        long byOne = made() - before;
        madeByDearCalls();
        long byCalls = madeByDearCalls();
        System.out.println(RUNS + " runs came back; an object has " + byOne + " bytes, dear calls made " + byCalls);
        if (byOne > MOST_BYTES_FOR_ONE || byCalls > 4096 || one.look(0) != 0) {
            System.out.println("too much was made");
            System.exit(1);
        }
    }
}
