import java.lang.management.ManagementFactory;

/**
 * All calls of one run live in one room of 600,000 objects and 7.3 million fields and elements: each call, 500
 * times over on full columns, must stay far below that. Bytes are counted, an element being 4 of them.
 */
public final class RoomTests {
    private static final com.sun.management.ThreadMXBean ROOM =
            (com.sun.management.ThreadMXBean) ManagementFactory.getThreadMXBean();
    private static final long MOST = 4L * 1_000_000;
    private static int wrong;

    private interface Calls {
        void run(LeafStripes x, int i);
    }

    private static int[] words(String text) {
        int[] w = new int[(text.length() + 19) / 20 * 5];
        for (int i = 0; i < w.length * 4; i++) {
            w[i / 4] = w[i / 4] << 8 | (i < text.length() ? text.charAt(i) : ' ');
        }
        return w;
    }

    private static void feed(LeafStripes x, int[] w) {
        for (int i = 0; i < w.length; i += 5) {
            x.feed(w[i], w[i + 1], w[i + 2], w[i + 3], w[i + 4]);
        }
    }

    private static final String SCHEMA = "many a{many b{many c{many d;maybe e;}many f;maybe g;}many h;one i;maybe j;}many k;";
    private static final int[] SCHEMA_WORDS = words(SCHEMA);
    private static final String RECORD = "[" + "([([] [] -)] [] 1 -)".repeat(30) + "] [" + "1 ".repeat(10) + "];";
    private static final int[] RECORD_WORDS = words(RECORD);
    private static final int[] PIPE_WORDS = words("plus 1;times 3;mod 900;");

    private static LeafStripes full() {
        LeafStripes x = new LeafStripes();
        feed(x, SCHEMA_WORDS);
        if (x.schema(SCHEMA.length()) != 0) {
            throw new AssertionError("the test's schema at " + x.fault());
        }
        for (int i = 0; i < 4; i++) {
            feed(x, RECORD_WORDS);
            if (x.add(RECORD.length()) != 0) {
                throw new AssertionError("the test's record at " + x.fault());
            }
        }
        feed(x, SCHEMA_WORDS);
        x.view(SCHEMA.length());
        return x;
    }

    private static void measure(String what, Calls calls) {
        calls.run(full(), 0);
        long before = ROOM.getThreadAllocatedBytes(Thread.currentThread().getId());
        LeafStripes x = full();
        for (int i = 0; i < 500; i++) {
            calls.run(x, i);
        }
        long bytes = ROOM.getThreadAllocatedBytes(Thread.currentThread().getId()) - before;
        if (bytes > MOST) {
            wrong++;
            System.out.println(what + " takes " + bytes + " bytes in 500 calls");
        }
    }

    public static void main(String[] args) {
        measure("schema", (x, i) -> {
            feed(x, SCHEMA_WORDS);
            x.schema(SCHEMA.length());
        });
        measure("add and drop", (x, i) -> {
            x.drop();
            feed(x, RECORD_WORDS);
            x.add(RECORD.length());
        });
        measure("pipe", (x, i) -> {
            feed(x, PIPE_WORDS);
            x.pipe(23);
        });
        measure("view", (x, i) -> {
            feed(x, SCHEMA_WORDS);
            x.view(SCHEMA.length());
        });
        measure("harmless", (x, i) -> x.count(12));
        measure("cover", (x, i) -> x.count(8));
        measure("told", (x, i) -> x.sign(3, 255, 5));
        measure("seen", (x, i) -> x.seenSign(3, 5));
        measure("reads", (x, i) -> x.reads(3, 255));
        measure("piped", (x, i) -> x.piped(7, 3));
        measure("fold, picked, pages", (x, i) -> {
            x.fold(7, 4);
            x.picked(7, 2, 3);
            x.pages(7, 100);
        });
        measure("years", (x, i) -> x.years(i, 10, 2));
        measure("acts", (x, i) -> {
            x.set(5, 0, i % 2);
            x.damage(0, 0, 1, i % 2);
            x.undo();
        });
        measure("images", (x, i) -> {
            x.image();
            x.restore();
        });
        System.out.println("RoomTests: " + wrong + " calls take too much room");
        if (wrong != 0) {
            System.exit(1);
        }
    }
}
