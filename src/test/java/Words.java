/** Words of raw programs, and running them, for the tests that extend this. */
abstract class Words {
    static final int A = 10, B = 11, C = 12, CALL = 17, T0 = 5, T1 = 6, T2 = 7;
    static final int SYSTEM = 0x73;

    static int r(int g, int f, int d, int a, int b) {
        return g << 25 | b << 20 | a << 15 | f << 12 | d << 7 | 0x33;
    }

    static int i(int op, int f, int d, int a, int number) {
        return (number & 0xfff) << 20 | a << 15 | f << 12 | d << 7 | op;
    }

    static int addi(int d, int a, int number) {
        return i(0x13, 0, d, a, number);
    }

    static int s(int f, int b, int a, int number) {
        return (number >> 5 & 127) << 25 | b << 20 | a << 15 | f << 12 | (number & 31) << 7 | 0x23;
    }

    static int branch(int f, int a, int b, int by) {
        return (by >> 12 & 1) << 31 | (by >> 5 & 63) << 25 | b << 20 | a << 15 | f << 12 | (by >> 1 & 15) << 8 | (by >> 11 & 1) << 7 | 0x63;
    }

    static int jal(int d, int by) {
        return (by >> 20 & 1) << 31 | (by >> 1 & 0x3ff) << 21 | (by >> 11 & 1) << 20 | (by >> 12 & 255) << 12 | d << 7 | 0x6f;
    }

    static int lui(int d, int upper) {
        return upper << 12 | d << 7 | 0x37;
    }

    static int auipc(int d, int upper) {
        return upper << 12 | d << 7 | 0x17;
    }

    static int[] join(int[]... parts) {
        int length = 0;
        for (int[] part : parts) {
            length += part.length;
        }
        int[] all = new int[length];
        int at = 0;
        for (int[] part : parts) {
            System.arraycopy(part, 0, all, at, part.length);
            at += part.length;
        }
        return all;
    }

    static int[] words(int... words) {
        return words;
    }

    /** Two words that bring any number into a register. */
    static int[] li(int d, int number) {
        int upper = number + 0x800 >>> 12;
        return words(lui(d, upper), addi(d, d, number - (upper << 12)));
    }

    static HomeSystem begun(int x, int want, int[]... parts) {
        HomeSystem system = new HomeSystem();
        Check.words(system, 0, join(parts));
        Check.due("raw run", system.run(0, x, 100, 0), want);
        Check.noValue("raw run", system, 0);
        return system;
    }

    /** What register a holds at the call 0 behind these words. */
    static void gives(String what, int x, int want, int[]... parts) {
        HomeSystem system = begun(x, HomeSystem.DONE, join(parts), words(addi(CALL, 0, 0), SYSTEM));
        Check.due(what, system.value(0), want);
    }

    static void faults(String what, int[]... parts) {
        HomeSystem system = begun(0, HomeSystem.FAULT, words(addi(CALL, 0, 1), SYSTEM), join(parts), words(SYSTEM));
        Check.due(what + ": value", system.value(0), 0);
        Check.due(what + ": paper", system.paper(0), 1);
    }
}
