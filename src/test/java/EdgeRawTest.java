import java.util.Arrays;

/** The edges of RAW PROGRAMS and INSTRUCTIONS: addresses, alignments, numbers within, meters, calls. */
public final class EdgeRawTest extends Words {
    private static final int LOW = Integer.MIN_VALUE, HIGH = Integer.MAX_VALUE;
    private static final int[] NUMBERS = {LOW, LOW + 1, -65536, -2, -1, 0, 1, 2, 31, 32, 65535, HIGH - 1, HIGH};

    public static void main(String[] args) {
        howManyWords();
        lowestByteFirst();
        wordsAndZeroBehindThem();
        wordsAreNotWritten();
        memoryIsNotDone();
        edgesOfMemory();
        halvesAndWordsWhereTheyMayStand();
        memoryIsZeroAtFirst();
        everyPageOfMemory();
        registerZero();
        everyOp();
        everyRegisterOperation();
        everyShiftByANumber();
        everyWordNearACall();
        nothingAtAll();
        numbersWithinAdditions();
        numbersWithinLoadsAndStores();
        numbersWithinJumps();
        numbersWithinBranches();
        upperNumbers();
        jumpsByARegister();
        jumpsToHalfAWord();
        jumpsToTheEdgesOfThePage();
        comparisons();
        shifts();
        products();
        quotients();
        signsOfLoads();
        partsOfStores();
        sixteenTimesTheWork();
        workOfCalls();
        workOfCallsThatWait();
        numbersOfCalls();
        handlesOfCalls();
        spawnsOfRawWords();
        answersOfCalls();
        blocksAndCounts();
        blocksAndAddresses();
        outBeforeFault();
        papersBeyondTheirEnd();
        Check.end("EdgeRawTest");
    }

    /** "RAW PROGRAMS have 1 to 512 words"; "one to three bytes behind them are gone"; "NONE when these are none". */
    private static void howManyWords() {
        int[] lengths = {0, 1, 2, 3, 4, 5, 6, 7, 8, 9, 2043, 2044, 2045, 2046, 2047, 2048};
        for (int k = 0; k < lengths.length; k++) {
            HomeSystem system = new HomeSystem();
            Check.words(system, 1, SYSTEM);
            byte[] bytes = new byte[lengths[k]];
            for (int at = 0; at + 4 <= bytes.length; at += 4) {
                bytes[at] = SYSTEM;
            }
            Check.tape(system, bytes);
            Check.due("raw of " + lengths[k], system.raw(1), lengths[k] < 4 ? HomeSystem.NONE : lengths[k] / 4);
            Check.throwing("the tape is empty behind " + lengths[k], Check.ARGUMENT, () -> system.end(1));
            Check.due("run of " + lengths[k], system.run(1, 5, 1, 0), lengths[k] < 4 ? HomeSystem.NONE : HomeSystem.DONE);
        }
        // the last of 512 words can be done, and what comes behind it is 0
        int[] most = new int[512];
        Arrays.fill(most, addi(A, A, 1));
        HomeSystem system = new HomeSystem();
        most[511] = SYSTEM;
        Check.words(system, 0, most);
        Check.due("512 words", system.run(0, 0, 100, 0), HomeSystem.DONE);
        Check.due("value", system.value(0), 511);
        most[511] = addi(A, A, 1);
        Check.words(system, 0, most);
        Check.due("behind 512 words", system.run(0, 0, 100, 0), HomeSystem.FAULT);
    }

    /** "four bytes each, the lowest first". */
    private static void lowestByteFirst() {
        HomeSystem system = new HomeSystem();
        // addi a, a, -1 is ffff5513 reversed: 13 05 f5 ff; then the call
        system.feed(0x1305f5ff, 0x73000000, 0xffffffff, 0, 0);
        system.end(11);
        Check.due("raw", system.raw(0), 2);
        Check.due("run", system.run(0, 8, 1, 0), HomeSystem.DONE);
        Check.due("value", system.value(0), 7);
    }

    /** "behind them 0 up to the next address that can be divided by 1000; all that can be read and done". */
    private static void wordsAndZeroBehindThem() {
        int[] start = words(lui(T0, 0x400));
        gives("the first word", 0, lui(T0, 0x400), start, words(i(3, 2, A, T0, 0)));
        gives("the last word", 0, SYSTEM, start, words(i(3, 2, A, T0, 12)));
        gives("behind the last word", 9, 0, start, words(i(3, 2, A, T0, 16)));
        gives("the last word of the page", 9, 0, words(lui(T0, 0x401), i(3, 2, A, T0, -4)));
        gives("the last half of the page", 9, 0, words(lui(T0, 0x401), i(3, 1, A, T0, -2)));
        gives("the last byte of the page", 9, 0, words(lui(T0, 0x401), i(3, 0, A, T0, -1)));
        faults("a byte behind the page", words(lui(T0, 0x401), i(3, 0, A, T0, 0)));
        faults("a word behind the page", words(lui(T0, 0x401), i(3, 2, A, T0, 0)));
        faults("a byte before the words", words(lui(T0, 0x400), i(3, 0, A, T0, -1)));
        faults("a word before the words", words(lui(T0, 0x400), i(3, 2, A, T0, -4)));
        gives("a byte of a word", 0, 0x73, start, words(i(3, 0, A, T0, 12)));
        gives("a half of a word", 0, addi(CALL, 0, 0) >> 16, start, words(i(3, 1, A, T0, 10)));
        begun(0, HomeSystem.FAULT, words(addi(0, 0, 0)));
        begun(0, HomeSystem.FAULT, words(0));
        // with 512 words the page's other half is 0
        int[] most = new int[512];
        Arrays.fill(most, -1);
        System.arraycopy(words(lui(T0, 0x400), addi(T0, T0, 2047), i(3, 0, A, T0, 0), addi(CALL, 0, 1), SYSTEM, i(3, 0, A, T0, 1), SYSTEM, addi(CALL, 0, 0), SYSTEM), 0, most, 0, 9);
        HomeSystem system = new HomeSystem();
        Check.words(system, 0, most);
        Check.due("run", system.run(0, 0, 1, 0), HomeSystem.DONE);
        Check.paper("the last byte of 512 words and the next", system, 0, -1, 0);
    }

    /** "not written". */
    private static void wordsAreNotWritten() {
        int[] addresses = {0x400000, 0x400004, 0x4007fc, 0x400800, 0x400ffc};
        for (int k = 0; k < addresses.length; k++) {
            for (int f = 0; f < 3; f++) {
                faults("store " + f + " at " + Integer.toHexString(addresses[k]), li(T0, addresses[k]), words(s(f, 0, T0, 0)));
            }
        }
    }

    /** "read and written, not done". */
    private static void memoryIsNotDone() {
        int[] addresses = {0x500000, 0x503ffc, 0x7e0000, 0x7ffffc};
        for (int k = 0; k < addresses.length; k++) {
            int[] store = join(li(T0, addresses[k]), words(addi(T1, 0, SYSTEM), s(2, T1, T0, 0), i(3, 2, A, T0, 0)));
            gives("a word there", 0, SYSTEM, store);
            faults("to be done there", store, words(addi(CALL, 0, 0), i(0x67, 0, 0, T0, 0)));
        }
    }

    /** "From 500000 to 503fff, and from 7e0000 to 7fffff"; "All other addresses: FAULT." */
    private static void edgesOfMemory() {
        int[] first = {0x500000, 0x7e0000};
        int[] behind = {0x504000, 0x800000};
        for (int k = 0; k < 2; k++) {
            for (int f = 0; f < 3; f++) {
                int size = 1 << f;
                int[] inside = {first[k], first[k] + size, behind[k] - size, behind[k] - 2 * size, first[k] + 0x1000 - size, first[k] + 0x1000};
                for (int n = 0; n < inside.length; n++) {
                    gives("at " + Integer.toHexString(inside[n]), 0, 77, li(T0, inside[n]), words(addi(T1, 0, 77), s(f, T1, T0, 0), i(3, f, A, T0, 0)));
                }
                int[] outside = {first[k] - size, first[k] - 4, behind[k], behind[k] + size};
                for (int n = 0; n < outside.length; n++) {
                    faults("load at " + Integer.toHexString(outside[n]), li(T0, outside[n]), words(i(3, f, A, T0, 0)));
                    faults("store at " + Integer.toHexString(outside[n]), li(T0, outside[n]), words(s(f, T1, T0, 0)));
                }
            }
        }
        int[] nowhere = {0, 4, -4, 0x3ffffc, 0x401000, 0x4ffffc, 0x600000, 0x7dfffc, 0x1000000, HIGH - 3, LOW, LOW + 0x500000, 0x80500000, 0x40500000, 0x10500000};
        for (int k = 0; k < nowhere.length; k++) {
            faults("load at " + Integer.toHexString(nowhere[k]), li(T0, nowhere[k]), words(i(3, 2, A, T0, 0)));
            faults("store at " + Integer.toHexString(nowhere[k]), li(T0, nowhere[k]), words(s(2, 0, T0, 0)));
            faults("jump to " + Integer.toHexString(nowhere[k]), li(T0, nowhere[k]), words(i(0x67, 0, A, T0, 0)));
        }
    }

    /** "a half at an even address, a word at one that can be divided by 4; otherwise FAULT". */
    private static void halvesAndWordsWhereTheyMayStand() {
        int[] loads = {0, 1, 2, 4, 5};
        for (int at = 0; at < 8; at++) {
            int[] start = words(lui(T0, 0x500), addi(T1, 0, 5));
            for (int k = 0; k < loads.length; k++) {
                int size = 1 << (loads[k] & 3);
                if (at % size == 0) {
                    gives("load " + loads[k] + " at " + at, 3, 0, start, words(i(3, loads[k], A, T0, at)));
                } else {
                    faults("load " + loads[k] + " at " + at, start, words(i(3, loads[k], A, T0, at)));
                }
            }
            for (int f = 0; f < 3; f++) {
                if (at % (1 << f) == 0) {
                    gives("store " + f + " at " + at, 3, 5, start, words(s(f, T1, T0, at), i(3, f, A, T0, at)));
                } else {
                    faults("store " + f + " at " + at, start, words(s(f, T1, T0, at)));
                }
            }
        }
        int[] none = {3, 6, 7};
        for (int k = 0; k < none.length; k++) {
            faults("load with F " + none[k], words(lui(T0, 0x500), i(3, none[k], A, T0, 0)));
        }
        for (int f = 3; f < 8; f++) {
            faults("store with F " + f, words(lui(T0, 0x500), s(f, 0, T0, 0)));
        }
    }

    /** "0 at first", in each process and each run. */
    private static void memoryIsZeroAtFirst() {
        int[] addresses = {0x500000, 0x500ffc, 0x501000, 0x503ffc, 0x7e0000, 0x7f0000, 0x7ffffc};
        for (int k = 0; k < addresses.length; k++) {
            HomeSystem system = new HomeSystem();
            Check.words(system, 0, join(li(T0, addresses[k]), words(i(3, 2, A, T0, 0), addi(T1, A, 9), s(2, T1, T0, 0), i(3, 2, T2, T0, 0), SYSTEM)));
            Check.due("run", system.run(0, 4, 1, 0), HomeSystem.DONE);
            Check.due("0 in the first run", system.value(0), 0);
            Check.due("run", system.run(0, 4, 1, 0), HomeSystem.DONE);
            Check.due("0 in the second run", system.value(0), 0);
        }
        // what stands beside a written word on its page was written in the run before
        HomeSystem system = new HomeSystem();
        Check.words(system, 0, join(words(lui(T0, 0x502), branch(1, A, 0, 20), i(3, 2, A, T0, 8), s(2, T0, T0, 0), i(3, 2, A, T0, 8), SYSTEM), words(s(2, T0, T0, 8), SYSTEM)));
        Check.due("run", system.run(0, 1, 1, 0), HomeSystem.DONE);
        Check.due("run", system.run(0, 0, 1, 0), HomeSystem.DONE);
        Check.due("0 beside it", system.value(0), 0);
    }

    /** What is written to one page stays when another is written. */
    private static void everyPageOfMemory() {
        int[] addresses = {0x500000, 0x501000, 0x503ffc, 0x7e0000, 0x7e1000, 0x7f0ffc, 0x7ff000, 0x7ffffc};
        for (int up = 0; up < 2; up++) {
            int[][] stores = new int[addresses.length][];
            int[][] loads = new int[addresses.length][];
            for (int k = 0; k < addresses.length; k++) {
                int at = addresses[up == 0 ? k : addresses.length - 1 - k];
                stores[k] = join(li(T0, at), words(addi(T1, 0, k + 1), s(2, T1, T0, 0)));
                loads[k] = join(li(T0, at), words(i(3, 2, A, T0, 0), SYSTEM));
            }
            HomeSystem system = begun(0, HomeSystem.DONE, join(stores), words(addi(CALL, 0, 1)), join(loads), words(addi(CALL, 0, 0), SYSTEM));
            Check.paper("pages", system, 0, 1, 2, 3, 4, 5, 6, 7, 8);
        }
    }

    /** "register 0 is always 0". */
    private static void registerZero() {
        int[][] writers = {{lui(0, 5)}, {auipc(0, 5)}, {jal(0, 4)}, {auipc(T0, 0), i(0x67, 0, 0, T0, 8)}, {lui(T0, 0x400), i(3, 2, 0, T0, 0)}, {addi(0, A, 3)},
            {i(0x13, 2, 0, 0, 1)}, {i(0x13, 3, 0, 0, 1)}, {i(0x13, 4, 0, A, 1)}, {i(0x13, 6, 0, A, 1)}, {i(0x13, 7, 0, A, 1)}, {i(0x13, 1, 0, A, 1)}, {i(0x13, 5, 0, A, 1)},
            {r(0, 0, 0, A, A)}, {r(1, 0, 0, A, A)}, {r(1, 4, 0, A, A)}};
        for (int k = 0; k < writers.length; k++) {
            gives("register 0 behind writer " + k, 7, 0, writers[k], words(addi(A, 0, 0)));
        }
    }

    /** "All others, and what would trap: FAULT": each OP with all its other bits 0. */
    private static void everyOp() {
        for (int op = 0; op < 128; op++) {
            boolean done = op == 0x37 || op == 0x17 || op == 0x63 || op == 0x13 || op == 0x33 || op == 0xf;
            if (done && op != 0x63) {
                gives("OP " + op, 7, 7, words(op));
            } else if (op != 0x73 && op != 0x63 && op != 0x6f) {
                // among them loads, stores and jumps at 0
                faults("OP " + op, words(op));
            }
        }
    }

    /** OP 33: which G and F there are. */
    private static void everyRegisterOperation() {
        for (int g = 0; g < 128; g++) {
            for (int f = 0; f < 8; f++) {
                boolean known = g == 0 || g == 1 || g == 0x20 && (f == 0 || f == 5);
                if (g < 4 || g >= 0x1f && g <= 0x21 || g == 0x40 || g == 0x7f) {
                    begun(0, known ? HomeSystem.DONE : HomeSystem.FAULT, words(r(g, f, A, 0, 0), SYSTEM));
                }
            }
        }
    }

    /** OP 13 with F 1 and 5: which G there are; with other F the bits are the number's. */
    private static void everyShiftByANumber() {
        for (int g = 0; g < 128; g++) {
            begun(0, g == 0 ? HomeSystem.DONE : HomeSystem.FAULT, words(i(0x13, 1, A, 0, g << 5), SYSTEM));
            begun(0, g == 0 || g == 0x20 ? HomeSystem.DONE : HomeSystem.FAULT, words(i(0x13, 5, A, 0, g << 5), SYSTEM));
        }
        for (int f = 0; f < 8; f++) {
            if (f != 1 && f != 5) {
                begun(0, HomeSystem.DONE, words(i(0x13, f, T0, 0, 0x7e0), SYSTEM));
            }
        }
    }

    /** "The word 73: a CALL." */
    private static void everyWordNearACall() {
        for (int bit = 7; bit < 32; bit++) {
            begun(5, HomeSystem.FAULT, words(SYSTEM | 1 << bit));
        }
        begun(5, HomeSystem.DONE, words(SYSTEM));
    }

    /** "OP f (F 0): nothing." */
    private static void nothingAtAll() {
        for (int f = 0; f < 8; f++) {
            begun(5, f == 0 ? HomeSystem.DONE : HomeSystem.FAULT, words(0xf | f << 12, SYSTEM));
        }
        for (int bit = 7; bit < 32; bit++) {
            if (bit < 12 || bit > 14) {
                gives("f with bit " + bit, 5, 5, words(0xf | 1 << bit));
            }
        }
    }

    /** "I bits 20 .. 31", with a sign. */
    private static void numbersWithinAdditions() {
        int[] numbers = {-2048, -2047, -1025, -1, 0, 1, 1023, 1024, 2046, 2047};
        for (int k = 0; k < numbers.length; k++) {
            int n = numbers[k];
            gives("add " + n, 100, 100 + n, words(addi(A, A, n)));
            gives("xor " + n, 100, 100 ^ n, words(i(0x13, 4, A, A, n)));
            gives("or " + n, 100, 100 | n, words(i(0x13, 6, A, A, n)));
            gives("and " + n, 0x12345678, 0x12345678 & n, words(i(0x13, 7, A, A, n)));
            for (int d = -1; d < 2; d++) {
                gives("less than " + n, n + d, d < 0 ? 1 : 0, words(i(0x13, 2, A, A, n)));
                boolean below = Integer.compareUnsigned(n + d, n) < 0;
                gives("less than " + n + " without a sign", n + d, below ? 1 : 0, words(i(0x13, 3, A, A, n)));
            }
        }
        gives("add to the greatest", HIGH, LOW, words(addi(A, A, 1)));
        gives("add to the least", LOW, HIGH, words(addi(A, A, -1)));
    }

    /** "S bits 25 .. 31 and 7 .. 11", and I of loads. */
    private static void numbersWithinLoadsAndStores() {
        int[] numbers = {-2048, -1024, -64, -32, -16, -4, 0, 4, 8, 16, 28, 32, 64, 128, 256, 512, 1024, 2044};
        for (int k = 0; k < numbers.length; k++) {
            int n = numbers[k];
            int[] base = join(words(lui(T0, 0x501)), li(T1, 0x501000 + n), words(addi(T2, 0, 33)));
            gives("store at " + n, 0, 33, base, words(s(2, T2, T0, n), i(3, 2, A, T1, 0)));
            gives("load at " + n, 0, 33, base, words(s(2, T2, T1, 0), i(3, 2, A, T0, n)));
            gives("nothing beside " + n, 5, 0, base, words(s(2, T2, T0, n), i(3, 2, A, T1, 4)));
        }
        gives("store of a byte at 2047", 0, 33, words(lui(T0, 0x501), addi(T2, 0, 33), s(0, T2, T0, 2047), i(3, 0, A, T0, 2047)));
        gives("the sum alone counts", 0, 33, join(li(T0, 0x500000), words(addi(T2, 0, 33), s(2, T2, T0, 0))), li(T1, 0x500000 - 2047 - 1), words(addi(T1, T1, 2047), i(3, 2, A, T1, 1)));
    }

    /** A jump or branch over words that would fault, by so many bytes. */
    private static void leap(String what, int by, int word) {
        int[] all = new int[512];
        int[] end = {addi(A, A, 40), SYSTEM};
        int from = by > 0 ? 4 : 400;
        int to = from + by / 4;
        all[0] = jal(0, 4 * from);
        all[from] = word;
        all[to] = end[0];
        all[to + 1] = end[1];
        HomeSystem system = new HomeSystem();
        Check.words(system, 0, all);
        Check.due(what + " by " + by, system.run(0, 2, 1, 0), HomeSystem.DONE);
        Check.due(what + " by " + by, system.value(0), 42);
    }

    private static final int[] DISTANCES = {4, 8, 16, 32, 64, 128, 256, 512, 1024, 12, 100, 1996, -8, -16, -32, -64, -128, -256, -512, -1024, -12, -1500};

    /** "J (times 2) bits 31, 12 .. 19, 20, 21 .. 30, the highest first". */
    private static void numbersWithinJumps() {
        for (int k = 0; k < DISTANCES.length; k++) {
            leap("jump", DISTANCES[k], jal(T0, DISTANCES[k]));
        }
        int[] far = {1 << 11, 1 << 12, 1 << 13, 1 << 14, 1 << 15, 1 << 16, 1 << 17, 1 << 18, 1 << 19, -(1 << 20), 1048572, 0xfffff000};
        for (int k = 0; k < far.length; k++) {
            faults("jump far by " + far[k], words(jal(T0, far[k])));
        }
        gives("what a jump leaves", 0, 0x400008, words(addi(0, 0, 0), jal(A, 8), 0));
        gives("what a jump leaves", 0, 0x400008, words(addi(0, 0, 0), jal(A, 4)));
        // by 0 it is a loop
        begun(0, HomeSystem.WORN, words(jal(0, 0)));
    }

    /** "C (times 2) bits 31, 7, 25 .. 30, 8 .. 11". */
    private static void numbersWithinBranches() {
        for (int k = 0; k < DISTANCES.length; k++) {
            leap("branch", DISTANCES[k], branch(0, 0, 0, DISTANCES[k]));
        }
        faults("branch far back", words(branch(0, 0, 0, -4096)));
        // the bit 7 is the twelfth's: 2048 forwards is behind the words, where 0 stands, 4092 too
        faults("branch by 2048", words(branch(0, 0, 0, 2048)));
        faults("branch by 4092", words(branch(0, 0, 0, 4092)));
        begun(0, HomeSystem.WORN, words(branch(0, 0, 0, 0)));
    }

    /** "U bits 12 .. 31, times 4096". */
    private static void upperNumbers() {
        int[] uppers = {0, 1, 0x7ffff, 0x80000, 0xfffff, 0x12345};
        for (int k = 0; k < uppers.length; k++) {
            gives("U " + uppers[k], 9, uppers[k] << 12, words(lui(A, uppers[k])));
            gives("PC + U " + uppers[k], 9, 0x400000 + (uppers[k] << 12), words(auipc(A, uppers[k])));
            gives("a later PC + U " + uppers[k], 9, 0x400008 + (uppers[k] << 12), words(addi(0, 0, 0), addi(0, 0, 0), auipc(A, uppers[k])));
        }
    }

    /** "PC becomes a + I without its lowest bit (a as it was)". */
    private static void jumpsByARegister() {
        int[] numbers = {-2048, -1, 0, 1, 4, 5, 2047};
        for (int k = 0; k < numbers.length; k++) {
            int n = numbers[k];
            // to the word behind the jump, which is the fourth
            int[] start = li(T0, 0x400010 - n);
            gives("jump by " + n, 0, 0x400010, words(addi(0, 0, 0)), start, words(i(0x67, 0, A, T0, n)));
            gives("the lowest bit and " + n, 0, 0x400010, words(addi(0, 0, 0)), li(T0, 0x400011 - n), words(i(0x67, 0, A, T0, n)));
            gives("its own register and " + n, 0, 0x400010, words(addi(0, 0, 0)), li(A, 0x400010 - n), words(i(0x67, 0, A, A, n)));
        }
        for (int f = 1; f < 8; f++) {
            faults("F " + f, words(auipc(T0, 0), i(0x67, f, A, T0, 8)));
        }
    }

    /** "If it becomes an address that can't be divided by 4: FAULT". */
    private static void jumpsToHalfAWord() {
        faults("jump by 2", words(jal(A, 2)));
        faults("jump by 6", words(jal(A, 6)));
        faults("jump by -2", words(jal(A, -2)));
        for (int at = 1; at < 8; at++) {
            int[] words = words(auipc(T0, 0), addi(A, 0, 1), i(0x67, 0, T1, T0, 12 + at), addi(A, A, 1), addi(A, A, 1));
            if ((at & 2) == 0) {
                gives("by a register to " + at, 0, at < 4 ? 3 : 2, words);
            } else {
                faults("by a register to " + at, words);
            }
        }
        int[] taken = {0, 5, 7};
        int[] not = {1, 4, 6};
        for (int k = 0; k < 3; k++) {
            faults("branch " + taken[k] + " by 2", words(branch(taken[k], 0, 0, 2)));
            faults("branch " + taken[k] + " by 6", words(branch(taken[k], 0, 0, 6)));
            gives("branch " + not[k] + " by 2", 4, 4, words(branch(not[k], 0, 0, 2)));
        }
        // the fault is the jump's own: it comes even if no work is left for another instruction
        int[] sixteen = new int[16];
        Arrays.fill(sixteen, addi(0, 0, 0));
        int[] last = {jal(A, 2), branch(0, 0, 0, 2), i(0x67, 0, A, 0, 2)};
        for (int k = 0; k < last.length; k++) {
            sixteen[15] = last[k];
            HomeSystem system = new HomeSystem();
            Check.words(system, 0, sixteen);
            Check.due("its own fault", system.run(0, 0, 1, 0), HomeSystem.FAULT);
        }
        // but where it leads to is only seen with work left
        sixteen[15] = i(0x67, 0, A, 0, 0);
        HomeSystem system = new HomeSystem();
        Check.words(system, 0, sixteen);
        Check.due("nothing there, and no work", system.run(0, 0, 1, 0), HomeSystem.WORN);
        Check.due("nothing there", system.run(0, 0, 2, 0), HomeSystem.FAULT);
    }

    private static void jumpsToTheEdgesOfThePage() {
        gives("to the first word", 0, 1, words(branch(1, A, 0, 12), addi(A, A, 1), jal(0, -8)));
        faults("before the first word", words(jal(0, -12)));
        faults("to the last word of the page, which is 0", words(jal(0, 0xffc - 8)));
        faults("behind the page", words(jal(0, 0x1000 - 8)));
    }

    /** "a < b", "without a sign", "not so". */
    private static void comparisons() {
        for (int k = 0; k < NUMBERS.length; k++) {
            for (int m = 0; m < NUMBERS.length; m++) {
                int a = NUMBERS[k];
                int b = NUMBERS[m];
                boolean below = Integer.compareUnsigned(a, b) < 0;
                int[] both = join(li(T0, a), li(T1, b));
                gives(a + " < " + b, 0, a < b ? 1 : 0, both, words(r(0, 2, A, T0, T1)));
                gives(a + " < " + b + " without a sign", 0, below ? 1 : 0, both, words(r(0, 3, A, T0, T1)));
                boolean[] taken = {a == b, a != b, false, false, a < b, a >= b, below, !below};
                for (int f = 0; f < 8; f++) {
                    if (f != 2 && f != 3) {
                        gives("branch " + f + " of " + a + ", " + b, 0, taken[f] ? 2 : 3, both, words(branch(f, T0, T1, 8), addi(A, A, 1), addi(A, A, 2)));
                    }
                }
            }
        }
        faults("branch 2", words(branch(2, 0, 0, 8)));
        faults("branch 3", words(branch(3, 0, 0, 8)));
        // a branch leaves all registers
        for (int k = 1; k < 32; k++) {
            int want = k == 2 ? 0x800000 : k == A ? 6 : 0;
            gives("register " + k + " behind a branch", 6, want, words(branch(0, 0, 0, 8), 0, addi(A, k, 0)));
            gives("register " + k + " behind no branch", 6, want, words(branch(1, 0, 0, 8), addi(A, k, 0)));
            gives("register " + k + " behind a jump", 6, want, words(jal(0, 8), 0, addi(A, k, 0)));
            gives("register " + k + " behind nothing", 6, want, words(0x0ff0008f, addi(A, k, 0)));
        }
    }

    /** "shifts by the lowest five bits of b". */
    private static void shifts() {
        int[] counts = {LOW, -33, -32, -1, 0, 1, 30, 31, 32, 33, 64, HIGH};
        for (int k = 0; k < NUMBERS.length; k++) {
            int n = NUMBERS[k];
            for (int m = 0; m < counts.length; m++) {
                int by = counts[m] & 31;
                gives("left", n, n << by, li(T1, counts[m]), words(r(0, 1, A, A, T1)));
                gives("right", n, n >>> by, li(T1, counts[m]), words(r(0, 5, A, A, T1)));
                gives("right with the sign", n, n >> by, li(T1, counts[m]), words(r(0x20, 5, A, A, T1)));
                gives("left by a number", n, n << by, words(i(0x13, 1, A, A, by)));
                gives("right by a number", n, n >>> by, words(i(0x13, 5, A, A, by)));
                gives("right with the sign by a number", n, n >> by, words(i(0x13, 5, A, A, by | 0x400)));
            }
        }
    }

    /** "a * y, and the upper 32 bits of their product as 64 bits". */
    private static void products() {
        for (int k = 0; k < NUMBERS.length; k++) {
            for (int m = 0; m < NUMBERS.length; m++) {
                long a = NUMBERS[k];
                long b = NUMBERS[m];
                long bigB = b & 0xffffffffL;
                int[] both = join(li(T0, (int) a), li(T1, (int) b));
                java.math.BigInteger unsigned = java.math.BigInteger.valueOf(a & 0xffffffffL).multiply(java.math.BigInteger.valueOf(bigB));
                gives(a + " * " + b, 0, (int) (a * b), both, words(r(1, 0, A, T0, T1)));
                gives("upper of " + a + ", " + b, 0, (int) (a * b >> 32), both, words(r(1, 1, A, T0, T1)));
                gives("upper, a with a sign, of " + a + ", " + b, 0, (int) (a * bigB >> 32), both, words(r(1, 2, A, T0, T1)));
                gives("upper without a sign of " + a + ", " + b, 0, unsigned.shiftRight(32).intValue(), both, words(r(1, 3, A, T0, T1)));
                gives("sum", 0, (int) (a + b), both, words(r(0, 0, A, T0, T1)));
                gives("difference", 0, (int) (a - b), both, words(r(0x20, 0, A, T0, T1)));
            }
        }
    }

    /** "(by 0: all bits 1, and a; -2 to the 31 by -1: that, and 0)". */
    private static void quotients() {
        for (int k = 0; k < NUMBERS.length; k++) {
            for (int m = 0; m < NUMBERS.length; m++) {
                int a = NUMBERS[k];
                int b = NUMBERS[m];
                int[] both = join(li(T0, a), li(T1, b));
                gives(a + " / " + b, 0, b == 0 ? -1 : (int) ((long) a / b), both, words(r(1, 4, A, T0, T1)));
                gives(a + " / " + b + " without sign", 0, b == 0 ? -1 : Integer.divideUnsigned(a, b), both, words(r(1, 5, A, T0, T1)));
                gives(a + " % " + b, 0, b == 0 ? a : (int) ((long) a % b), both, words(r(1, 6, A, T0, T1)));
                gives(a + " % " + b + " without sign", 0, b == 0 ? a : Integer.remainderUnsigned(a, b), both, words(r(1, 7, A, T0, T1)));
            }
        }
    }

    /** "0 and 1 with a sign, 4 and 5 without". */
    private static void signsOfLoads() {
        int[] numbers = {0, 1, 0x7f, 0x80, 0xff, 0x7fff, 0x8000, 0xffff, 0x7fffffff, 0x80000000, -1, 0x12345678, 0x80ff7f01};
        for (int k = 0; k < numbers.length; k++) {
            int n = numbers[k];
            int[] base = join(words(lui(T0, 0x500)), li(T1, n), words(s(2, T1, T0, 4)));
            for (int at = 0; at < 4; at++) {
                gives("byte " + at, 0, (byte) (n >> 8 * at), base, words(i(3, 0, A, T0, 4 + at)));
                gives("byte without sign " + at, 0, n >> 8 * at & 255, base, words(i(3, 4, A, T0, 4 + at)));
            }
            for (int at = 0; at < 4; at += 2) {
                gives("half " + at, 0, (short) (n >> 8 * at), base, words(i(3, 1, A, T0, 4 + at)));
                gives("half without sign " + at, 0, n >> 8 * at & 65535, base, words(i(3, 5, A, T0, 4 + at)));
            }
            gives("word", 0, n, base, words(i(3, 2, A, T0, 4)));
        }
    }

    /** "stores ... the lowest bits of b". */
    private static void partsOfStores() {
        int old = 0x91a2b3c4;
        int n = 0x8576f7e8;
        for (int f = 0; f < 3; f++) {
            int size = 1 << f;
            for (int at = 0; at < 4; at += size) {
                int mask = size == 4 ? -1 : ((1 << 8 * size) - 1) << 8 * at;
                int[] store = join(words(lui(T0, 0x7f0)), li(T1, old), words(s(2, T1, T0, 0), s(2, T1, T0, 4), s(2, T1, T0, -4)), li(T1, n), words(s(f, T1, T0, at)));
                gives("store " + f + " at " + at, 0, old & ~mask | n << 8 * at & mask, store, words(i(3, 2, A, T0, 0)));
                gives("before it", 0, old, store, words(i(3, 2, A, T0, -4)));
                gives("behind it", 0, old, store, words(i(3, 2, A, T0, 4)));
            }
        }
    }

    /** "takes 1 of sixteen times the work ...; when there is 0 before one (a call, too, and whatever stands there): WORN". */
    private static void sixteenTimesTheWork() {
        int[] works = {0, 1, 2, 3, 31};
        for (int k = 0; k < works.length; k++) {
            for (int before = -1; before < 2; before++) {
                // so many instructions before the call
                int count = 16 * works[k] + before;
                if (count >= 0) {
                    int[] all = new int[count + 1];
                    Arrays.fill(all, addi(A, A, 1));
                    all[count] = SYSTEM;
                    HomeSystem system = new HomeSystem();
                    Check.words(system, 0, all);
                    Check.due(count + " and a call with " + works[k], system.run(0, 0, works[k], 0), before < 0 ? HomeSystem.DONE : HomeSystem.WORN);
                    Check.due("value", system.value(0), before < 0 ? count : 0);
                    all[count] = 0;
                    Check.words(system, 0, all);
                    Check.due(count + " and 0 with " + works[k], system.run(0, 0, works[k], 0), before < 0 ? HomeSystem.FAULT : HomeSystem.WORN);
                }
            }
        }
        // 100 times 16 are 1600: 1 + 3 * 533, of which each third writes
        HomeSystem system = begun(0, HomeSystem.WORN, words(addi(CALL, 0, 1), SYSTEM, addi(A, A, 1), jal(0, -8)));
        Check.due("numbers", system.paper(0), 533);
    }

    /** "a call when it is done, 1 in all". */
    private static void workOfCalls() {
        int[][] calls = {{1, 5, 0}, {5, 9, 0}, {5, 1, 0}, {7, 0, 0x500000}, {8, 0, 0x500000}};
        for (int k = 0; k < calls.length; k++) {
            // four words bring the arguments, ten are calls, and main's end is the sixteenth
            int[] start = join(words(addi(CALL, 0, calls[k][0]), addi(A, 0, calls[k][1])), li(B, calls[k][2]));
            int[] ten = new int[10];
            Arrays.fill(ten, SYSTEM);
            HomeSystem system = new HomeSystem();
            Check.right(system, 1, "int main(int n) { return 1; }");
            Check.words(system, 0, join(start, ten, words(addi(CALL, 0, 0), SYSTEM)));
            Check.due("call " + calls[k][0], system.run(0, 0, 1, 99), HomeSystem.DONE);
            Check.words(system, 0, join(start, words(addi(0, 0, 0)), ten, words(addi(CALL, 0, 0), SYSTEM)));
            Check.due("call " + calls[k][0] + " and one more", system.run(0, 0, 1, 99), HomeSystem.WORN);
        }
    }

    private static void workOfCallsThatWait() {
        int[] calls = {3, 4};
        for (int k = 0; k < calls.length; k++) {
            for (int more = 12; more < 14; more++) {
                // two words before the call that waits, and so many between it and the end
                int[] between = new int[more];
                Arrays.fill(between, addi(CALL, 0, 0));
                HomeSystem system = new HomeSystem();
                Check.words(system, 1, join(words(addi(CALL, 0, calls[k]), addi(A, 0, 0), SYSTEM), between, words(SYSTEM)));
                Check.words(system, 0, join(words(addi(A, 0, 1), addi(CALL, 0, 5), SYSTEM, addi(B, 0, 9), addi(0, 0, 0), addi(CALL, 0, 2), SYSTEM, addi(CALL, 0, 6), SYSTEM, addi(CALL, 0, 0), SYSTEM)));
                Check.due("run", system.run(0, 0, 1, 0), HomeSystem.DONE);
                Check.due("child with " + more, system.outcome(1), more == 12 ? HomeSystem.DONE : HomeSystem.WORN);
                Check.due("wait", system.value(0), more == 12 ? calls[k] == 3 ? 9 : 1 : -HomeSystem.WORN);
            }
        }
        // one that waits to the end is WAITS, however little work it has left; with none left it does not come to wait
        for (int before = 14; before < 16; before++) {
            int[] all = new int[before + 2];
            Arrays.fill(all, addi(0, 0, 0));
            all[0] = addi(CALL, 0, 3);
            all[1] = addi(A, 0, 0);
            all[before + 1] = SYSTEM;
            HomeSystem system = new HomeSystem();
            Check.words(system, 1, all);
            Check.right(system, 0, "int main(int n) { spawn(1, 0); return recv(1); }");
            Check.due("parent", system.run(0, 0, 1, 99), HomeSystem.WORN);
            Check.right(system, 0, "int main(int n) { spawn(1, 0); }");
            Check.due("parent", system.run(0, 0, 1, 99), HomeSystem.WORN);
            Check.words(system, 0, words(addi(A, 0, 1), addi(CALL, 0, 5), SYSTEM, addi(CALL, 0, 3), SYSTEM));
            Check.due("parent", system.run(0, 0, 1, 99), HomeSystem.WAITS);
            Check.due("child behind " + (before + 1), system.outcome(1), before == 14 ? HomeSystem.WAITS : HomeSystem.WORN);
        }
    }

    /** "register 11 tells which ...; others FAULT". */
    private static void numbersOfCalls() {
        int[] numbers = {LOW, -1, 0xa, 0xb, 0xc, 0xd, 0xe, 0xf, 0x14, 0x15, 0x20, 0x100, 0x101, 0x10000, HIGH, 0x80000001};
        for (int k = 0; k < numbers.length; k++) {
            HomeSystem system = begun(5, HomeSystem.FAULT, li(CALL, numbers[k]), words(SYSTEM, addi(CALL, 0, 0), SYSTEM));
            Check.due("value", system.value(0), 0);
        }
        int[] right = {0, 9, 0x10, 0x11, 0x12, 0x13};
        int[] outcomes = {HomeSystem.DONE, HomeSystem.ENDED, HomeSystem.OUT, HomeSystem.ZERO, HomeSystem.DEEP, HomeSystem.WORN};
        for (int k = 0; k < right.length; k++) {
            int[] values = {LOW, -1, 0, 5, HIGH};
            for (int v = 0; v < values.length; v++) {
                HomeSystem system = begun(values[v], outcomes[k], words(addi(CALL, 0, 1), SYSTEM, addi(CALL, 0, right[k]), SYSTEM, addi(CALL, 0, 1), SYSTEM));
                Check.due("value", system.value(0), k < 2 ? values[v] : 0);
                Check.paper("what was written until then", system, 0, values[v]);
            }
        }
        // register 11 is the one behind register 10, not the one behind register a
        begun(5, HomeSystem.ENDED, words(addi(17, 0, 9), addi(11, 0, 1), addi(16, 0, 1), addi(18, 0, 1), SYSTEM));
    }

    private static void handlesOfCalls() {
        int[] calls = {2, 3, 4, 6};
        int[] handles = {LOW, -1, 0, 1, 2, 3, 4, HIGH};
        for (int c = 0; c < calls.length; c++) {
            for (int h = 0; h < handles.length; h++) {
                // one child, which has ended when it is asked
                HomeSystem system = new HomeSystem();
                Check.right(system, 1, "int main(int n) { send(0, 6); return 7; }");
                Check.words(system, 0, join(words(addi(T0, A, 0), addi(A, 0, 1), addi(CALL, 0, 5), SYSTEM, addi(CALL, 0, 6), SYSTEM),
                        words(addi(A, T0, 0), addi(CALL, 0, calls[c]), SYSTEM, addi(CALL, 0, 0), SYSTEM)));
                boolean somebody = handles[h] == 1;
                Check.due("call " + calls[c] + " of " + handles[h], system.run(0, handles[h], 9, 99), somebody ? HomeSystem.DONE : HomeSystem.OUT);
                int[] answers = {1, 6, 1, 7};
                Check.due("answer", system.value(0), somebody ? answers[c] : 0);
            }
        }
    }

    private static void spawnsOfRawWords() {
        // spawns four times program 1, with b 40, 41 and on, and writes the handles
        HomeSystem system = new HomeSystem();
        int[] once = words(addi(B, B, 1), addi(A, 0, 1), addi(CALL, 0, 5), SYSTEM, addi(CALL, 0, 1), SYSTEM);
        Check.words(system, 0, join(words(addi(B, 0, 39)), once, once, once, once, words(addi(A, 0, -1), addi(CALL, 0, 5), SYSTEM, addi(CALL, 0, 1), SYSTEM)));
        Check.words(system, 1, words(addi(CALL, 0, 1), SYSTEM, addi(CALL, 0, 0), SYSTEM));
        Check.due("the words have no end", system.run(0, 0, 9, 0), HomeSystem.FAULT);
        Check.paper("handles", system, 0, 1, 2, 3, -1, -1);
        for (int p = 1; p < 4; p++) {
            Check.due("child " + p, system.outcome(p), HomeSystem.DONE);
            Check.paper("child " + p, system, p, 39 + p);
        }
        Check.due("no fourth", system.outcome(4), HomeSystem.NONE);
    }

    /** "the answer comes into register a (others stay; put, send, get, set answer nothing)". */
    private static void answersOfCalls() {
        // all registers but a and 11 hold their number + 100 when the call is made
        int[] fill = new int[31];
        for (int k = 1; k < 32; k++) {
            fill[k - 1] = addi(k, 0, 100 + k);
        }
        int[] calls = {1, 2, 3, 4, 5, 6};
        int[] answers = {1, 1, 6, 1, 2, 7};
        for (int c = 0; c < calls.length; c++) {
            for (int k = 1; k < 32; k++) {
                HomeSystem system = new HomeSystem();
                Check.right(system, 1, "int main(int n) { send(0, 6); return 7; }");
                Check.words(system, 0, join(words(addi(A, 0, 1), addi(CALL, 0, 5), SYSTEM), fill, words(addi(A, 0, 1), addi(CALL, 0, calls[c]), SYSTEM),
                        words(addi(A, k, 0), addi(CALL, 0, 0), SYSTEM)));
                Check.due("call " + calls[c], system.run(0, 0, 9, 99), HomeSystem.DONE);
                Check.due("register " + k + " behind call " + calls[c], system.value(0), k == A ? answers[c] : k == CALL ? calls[c] : 100 + k);
            }
        }
        for (int call = 7; call < 9; call++) {
            for (int k = 1; k < 32; k++) {
                HomeSystem system = begun(0, HomeSystem.DONE, fill, words(addi(A, 0, 3), lui(B, 0x500), addi(C, 0, 2), addi(CALL, 0, call), SYSTEM),
                        words(addi(A, k, 0), addi(CALL, 0, 0), SYSTEM));
                Check.due("register " + k + " behind call " + call, system.value(0),
                        k == A ? 3 : k == B ? 0x500000 : k == C ? 2 : k == CALL ? call : 100 + k);
            }
        }
    }

    /** Call 7 or 8 of a block, with register b and c; 0x500000 and on hold 7, 8 and so on for twenty words. */
    private static HomeSystem moving(int call, int block, int address, int count, int want) {
        HomeSystem system = new HomeSystem();
        for (int k = 0; k < 128; k++) {
            system.setDisk(k, 500 + k);
        }
        int[] fill = words(lui(T0, 0x500), addi(T1, 0, 7), addi(T2, 0, 27), s(2, T1, T0, 0), addi(T0, T0, 4), addi(T1, T1, 1), branch(1, T1, T2, -12));
        int[] look = words(lui(T0, 0x500), addi(T2, T0, 80), addi(CALL, 0, 1), i(3, 2, A, T0, 0), SYSTEM, addi(T0, T0, 4), branch(1, T0, T2, -12), addi(A, 0, 3), addi(CALL, 0, 0), SYSTEM);
        Check.words(system, 0, join(fill, li(A, block), li(B, address), li(C, count), words(addi(CALL, 0, call), SYSTEM), look));
        Check.due("call " + call + " of block " + block + " at " + Integer.toHexString(address) + ", " + count, system.run(0, 0, 20, 0), want);
        Check.noValue("call " + call, system, 0);
        return system;
    }

    /** "c how many there are (below 0: none)"; sixteen at most. */
    private static void blocksAndCounts() {
        int[] counts = {LOW, -1, 0, 1, 2, 15, 16, 17, 100, HIGH};
        for (int k = 0; k < counts.length; k++) {
            int moved = Math.max(0, Math.min(16, counts[k]));
            HomeSystem system = moving(7, 5, 0x500004, counts[k], HomeSystem.DONE);
            for (int w = 0; w < 20; w++) {
                Check.due("word " + w + " of " + counts[k], system.paperAt(0, w), w >= 1 && w <= moved ? 580 + w - 1 : 7 + w);
            }
            system = moving(8, 5, 0x500004, counts[k], HomeSystem.DONE);
            for (int w = 70; w < 100; w++) {
                Check.due("word " + w + " of the disk, of " + counts[k], system.disk(w), w >= 80 && w < 80 + moved ? 8 + w - 80 : 500 + w);
            }
        }
    }

    /** "if b can't be divided by 4, or one of the words that are moved can't be read (for set; written, for get): FAULT". */
    private static void blocksAndAddresses() {
        for (int low = 1; low < 4; low++) {
            int[] counts = {-1, 0, 1, 16};
            for (int k = 0; k < counts.length; k++) {
                untouched(moving(7, 1, 0x500000 + low, counts[k], HomeSystem.FAULT));
                untouched(moving(8, 1, 0x500000 + low, counts[k], HomeSystem.FAULT));
            }
        }
        // the last words of each place, one too many, and none at all where nothing is
        int[] ends = {0x504000, 0x800000, 0x401000};
        for (int e = 0; e < ends.length; e++) {
            for (int count = 0; count < 18; count++) {
                int moved = Math.min(16, count);
                boolean written = ends[e] != 0x401000;
                moving(8, 1, ends[e] - 4 * moved, count, HomeSystem.DONE);
                if (moved > 0) {
                    untouched(moving(8, 1, ends[e] - 4 * moved + 4, count, HomeSystem.FAULT));
                    moving(7, 1, ends[e] - 4 * moved, count, written ? HomeSystem.DONE : HomeSystem.FAULT);
                    untouched(moving(7, 1, ends[e] - 4 * moved + 4, count, HomeSystem.FAULT));
                }
            }
        }
        int[] firsts = {0x500000, 0x7e0000, 0x400000};
        for (int f = 0; f < firsts.length; f++) {
            moving(8, 1, firsts[f], 1, HomeSystem.DONE);
            untouched(moving(8, 1, firsts[f] - 4, 1, HomeSystem.FAULT));
            untouched(moving(8, 1, firsts[f] - 4, 2, HomeSystem.FAULT));
            untouched(moving(7, 1, firsts[f] - 4, 2, HomeSystem.FAULT));
            moving(7, 1, firsts[f], 1, firsts[f] == 0x400000 ? HomeSystem.FAULT : HomeSystem.DONE);
        }
        int[] nowhere = {0, -4, -64, LOW, HIGH - 3, 0x600000};
        for (int n = 0; n < nowhere.length; n++) {
            moving(7, 1, nowhere[n], 0, HomeSystem.DONE);
            moving(8, 1, nowhere[n], -1, HomeSystem.DONE);
            untouched(moving(7, 1, nowhere[n], 1, HomeSystem.FAULT));
            untouched(moving(8, 1, nowhere[n], 16, HomeSystem.FAULT));
        }
    }

    /** "nothing is moved". */
    private static void untouched(HomeSystem system) {
        for (int w = 0; w < 128; w++) {
            Check.due("word " + w + " of the disk", system.disk(w), 500 + w);
        }
        Check.due("nothing was written", system.paper(0), 0);
    }

    /** "get and set (OUT, as above, first)". */
    private static void outBeforeFault() {
        int[] blocks = {LOW, -1, 8, HIGH};
        for (int k = 0; k < blocks.length; k++) {
            for (int call = 7; call < 9; call++) {
                untouched(moving(call, blocks[k], 0x500000, 16, HomeSystem.OUT));
                untouched(moving(call, blocks[k], 0x500001, 16, HomeSystem.OUT));
                untouched(moving(call, blocks[k], 0, 16, HomeSystem.OUT));
                untouched(moving(call, blocks[k], 0x500000, 0, HomeSystem.OUT));
            }
        }
        for (int block = 0; block < 8; block++) {
            Check.due("block " + block, moving(8, block, 0x500000, 16, HomeSystem.DONE).disk(16 * block + 15), 22);
            Check.due("block " + block, moving(7, block, 0x500000, 16, HomeSystem.DONE).paperAt(0, 15), 515 + 16 * block);
        }
        // not of process 0
        for (int call = 7; call < 9; call++) {
            HomeSystem system = new HomeSystem();
            Check.right(system, 0, "int main(int n) { spawn(1, 0); return wait(1); }");
            Check.words(system, 1, join(li(B, 0x500000), words(addi(CALL, 0, call), SYSTEM)));
            Check.due("run", system.run(0, 0, 9, 99), HomeSystem.DONE);
            Check.due("OUT", system.value(0), -HomeSystem.OUT);
        }
    }

    /** "How many numbers it wrote"; "also when i is above 255". */
    private static void papersBeyondTheirEnd() {
        int[] counts = {254, 255, 256, 257, 300};
        for (int k = 0; k < counts.length; k++) {
            int count = counts[k];
            HomeSystem system = begun(0, HomeSystem.DONE, words(addi(T0, 0, count), addi(CALL, 0, 1), SYSTEM, addi(A, A, 1), branch(1, A, T0, -8), addi(CALL, 0, 0), SYSTEM));
            Check.due("paper", system.paper(0), count);
            int[] asked = {0, 1, 253, 254, 255, 256, 257, 299};
            for (int n = 0; n < asked.length; n++) {
                int at = asked[n];
                if (at < count && at < 256) {
                    Check.due("paperAt " + at + " of " + count, system.paperAt(0, at), at);
                } else {
                    Check.throwing("paperAt " + at + " of " + count, Check.INDEX, () -> system.paperAt(0, at));
                }
            }
            Check.throwing("paperAt -1", Check.INDEX, () -> system.paperAt(0, -1));
        }
    }
}
