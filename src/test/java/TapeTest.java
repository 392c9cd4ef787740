/** Promises 1, 2, 3 and the edges of the tape. */
public final class TapeTest {
    public static void main(String[] args) {
        HomeSystem system = new HomeSystem();
        Check.due("place at first", system.place(), 0);
        Check.due("life at first", system.life(), 6000);
        for (int i = 0; i < 8; i++) {
            Check.due("run of empty program " + i, system.run(i, 1, 1, 1), HomeSystem.NONE);
        }
        Check.due("raw of an empty tape", system.raw(0), HomeSystem.NONE);
        bytesComeInOrder();
        fullTape();
        ends();
        Check.end("TapeTest");
    }

    private static void bytesComeInOrder() {
        HomeSystem system = new HomeSystem();
        // "int main(int n){" "retu" and "rn n+7;}" with twelve bytes that count no more
        system.feed(0x696e7420, 0x6d61696e, 0x28696e74, 0x206e297b, 0x72657475);
        system.feed(0x726e206e, 0x2b373b7d, 0x28282828, 0x28282828, 0x28282828);
        system.end(28);
        Check.due("text", system.text(0), 0);
        Check.due("run", system.run(0, 35, 5, 9), HomeSystem.DONE);
        Check.due("value", system.value(0), 42);
    }

    private static void fullTape() {
        HomeSystem system = new HomeSystem();
        for (int i = 0; i < 102; i++) {
            system.feed(0x20202020, 0x20202020, 0x20202020, 0x20202020, 0x20202020);
        }
        Check.throwing("feed 103", Check.STATE, () -> system.feed(0, 0, 0, 0, 0));
        Check.throwing("end 2041", Check.ARGUMENT, () -> system.end(2041));
        Check.throwing("end 2040", 0, () -> system.end(2040));
        system.end(2028);
        Check.throwing("feed to 2048", 0, () -> system.feed(0x20202020, 0x20202020, 0x20202020, 0x20202020, 0x20202020));
        Check.throwing("feed behind 2048", Check.STATE, () -> system.feed(0, 0, 0, 0, 0));
        Check.due("text of blanks", system.text(0), 12);
        Check.due("place of blanks", system.place(), 2049);
        Check.throwing("the tape is empty after text", Check.ARGUMENT, () -> system.end(1));
        Check.throwing("feed after text", 0, () -> system.feed(0, 0, 0, 0, 0));
    }

    private static void ends() {
        HomeSystem system = new HomeSystem();
        Check.throwing("end 1 of none", Check.ARGUMENT, () -> system.end(1));
        Check.throwing("end -1", Check.ARGUMENT, () -> system.end(-1));
        Check.throwing("end 0", 0, () -> system.end(0));
        system.feed(1, 2, 3, 4, 5);
        Check.throwing("end 21", Check.ARGUMENT, () -> system.end(21));
        Check.due("nothing was taken off", system.raw(0), 5);
        system.feed(1, 2, 3, 4, 5);
        system.end(11);
        Check.throwing("end 12 of 11", Check.ARGUMENT, () -> system.end(12));
        Check.due("three bytes too many are gone", system.raw(0), 2);
        Check.throwing("the tape is empty", Check.ARGUMENT, () -> system.end(1));
    }
}
