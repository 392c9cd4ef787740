import java.lang.management.ManagementFactory;

/** The dearest runs of calls stay small: what they make, and how many calls stand open at once. */
public final class RoomTest {
    /** A fourth of the room's 7.3 million fields and elements, at four bytes each. */
    private static final long MOST_BYTES = 7300000L;

    public static void main(String[] args) throws InterruptedException {
        largeTexts();
        manyProcesses();
        rawMemory();
        smallCalls();
        deepest();
        Check.end("RoomTest");
    }

    private static long made() {
        return ((com.sun.management.ThreadMXBean) ManagementFactory.getThreadMXBean()).getThreadAllocatedBytes(Thread.currentThread().getId());
    }

    private static void small(String what, long before) {
        long bytes = made() - before;
        Check.due(what + " made " + bytes + " bytes; too much", bytes > MOST_BYTES ? 1 : 0, 0);
    }

    private static void largeTexts() {
        byte[] text = Check.bytes("int main(int n){return " + Check.times("n+", 1000) + "1;}");
        byte[] names = Check.bytes("int main(int n){int " + Check.times("a,", 5) + "b;return " + Check.times("n;n", 600) + ";}");
        long before = made();
        HomeSystem system = new HomeSystem();
        for (int i = 0; i < 4; i++) {
            Check.tape(system, i % 2 == 0 ? text : names);
            system.text(i);
        }
        small("four large texts", before);
    }

    private static void manyProcesses() {
        byte[] text = Check.bytes("int a[4096], b[4096]; int main(int n) { for (int i = 1; i < 4; i++) spawn(n, n); while (n = n + 1) put(n); }");
        long before = made();
        HomeSystem system = new HomeSystem();
        for (int i = 0; i < 46; i++) {
            Check.tape(system, text);
            system.text(i % 8);
            if (system.life() >= 130) {
                system.run(i % 8, i % 8, 100, 512);
            }
        }
        small("forty-six runs of thirteen", before);
    }

    private static void rawMemory() {
        HomeSystem system = new HomeSystem();
        long before = made();
        for (int i = 0; i < 46; i++) {
            // spawns itself three times, then writes to each page of its stack
            system.feed(0x93050000, 0x93085000, 0x73000000, 0x13050000, 0x73000000);
            system.feed(0x13050000, 0x73000000, 0x37130000, 0x33016140, 0x23200100);
            system.feed(0x6ff09fff, 0, 0, 0, 0);
            system.end(44);
            system.raw(0);
            system.run(0, 0, 100, 0);
        }
        small("forty-six runs of thirteen raw ones", before);
        Check.due("all thirteen were begun", system.outcome(12), HomeSystem.FAULT);
    }

    private static void smallCalls() {
        HomeSystem system = new HomeSystem();
        long before = made();
        for (int i = 0; i < 512; i++) {
            system.text(i % 8);
        }
        small("512 empty texts", before);
        HomeSystem other = new HomeSystem();
        before = made();
        for (int i = 0; i < 512; i++) {
            Check.throwing("raw", Check.INDEX, () -> other.raw(8));
        }
        small("512 calls that throw", before);
    }

    /** A stack this small would not hold what is not bounded by the document's 60. */
    private static void deepest() throws InterruptedException {
        int[] found = new int[3];
        Thread thread = new Thread(null, () -> {
            HomeSystem system = new HomeSystem();
            found[0] = Check.text(system, 0, "int f(int x){return x;} int main(int n) { return " + Check.times("f(", 59) + "n" + Check.times(")", 59) + "; }");
            found[1] = Check.text(system, 0, "int f(int x){return x;} int main(int n) { return " + Check.times("f(", 900) + "n");
            found[2] = Check.text(system, 0, "int main(int n) " + Check.times("{", 2000));
        }, "small", 160 * 1024);
        thread.start();
        thread.join();
        Check.due("59 deep", found[0], 0);
        Check.due("900 deep", found[1], HomeSystem.NONE);
        Check.due("2000 deep", found[2], HomeSystem.NONE);
    }
}
