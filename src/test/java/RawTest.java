/** Promises 6 and 8 to 13 for raw programs: what each instruction and each call does. */
public final class RawTest extends Words {
    public static void main(String[] args) {
        arithmetic();
        immediates();
        products();
        jumps();
        branches();
        loads();
        stores();
        regions();
        unknownWords();
        beginnings();
        meters();
        fates();
        calls();
        blocks();
        longPaper();
        Check.end("RawTest");
    }

    private static void binary(String what, int g, int f, int a, int b, int want) {
        gives(what, 0, want, li(T0, a), li(T1, b), words(r(g, f, A, T0, T1)));
        if (a == b) {
            gives(what + " of one register", a, want, words(r(g, f, A, A, A)));
        }
    }

    private static void arithmetic() {
        binary("add", 0, 0, Integer.MAX_VALUE, 2, Integer.MIN_VALUE + 1);
        binary("sub", 0x20, 0, Integer.MIN_VALUE, 1, Integer.MAX_VALUE);
        binary("sub", 0x20, 0, 5, 5, 0);
        binary("shift left", 0, 1, 3, 33, 6);
        binary("less", 0, 2, -1, 1, 1);
        binary("less", 0, 2, 1, -1, 0);
        binary("less without sign", 0, 3, -1, 1, 0);
        binary("less without sign", 0, 3, 1, -1, 1);
        binary("xor", 0, 4, 12, 10, 6);
        binary("shift right", 0, 5, -8, 33, 0x7ffffffc);
        binary("shift right with sign", 0x20, 5, -8, 33, -4);
        binary("or", 0, 6, 12, 10, 14);
        binary("and", 0, 7, 12, 10, 8);
        gives("register 0 stays 0", 3, 0, words(r(0, 0, 0, A, A), r(0, 0, A, 0, 0)));
        gives("upper", 0, 0xfffff000, words(lui(A, 0xfffff)));
        gives("pc and upper", 0, 0x400004 - 4096, words(addi(0, 0, 0), auipc(A, 0xfffff)));
        gives("nothing", 7, 7, words(0x0f, 0x0ff0000f, 0xfff0800f));
    }

    private static void immediates() {
        gives("add", 5, 5 - 2048, words(addi(A, A, -2048)));
        gives("add", Integer.MAX_VALUE, Integer.MIN_VALUE + 2046, words(addi(A, A, 2047)));
        gives("less", -5, 1, words(i(0x13, 2, A, A, -4)));
        gives("less", -4, 0, words(i(0x13, 2, A, A, -4)));
        gives("less without sign", 5, 1, words(i(0x13, 3, A, A, -1)));
        gives("less without sign", -1, 0, words(i(0x13, 3, A, A, -1)));
        gives("xor", 5, ~5, words(i(0x13, 4, A, A, -1)));
        gives("or", 5, -1, words(i(0x13, 6, A, A, -2)));
        gives("and", 0x12345fff, 0x12345800, words(i(0x13, 7, A, A, -2048)));
        gives("shift left", 3, 3 << 31, words(i(0x13, 1, A, A, 31)));
        gives("shift right", -3, -3 >>> 31, words(i(0x13, 5, A, A, 31)));
        gives("shift right with sign", -3, -1, words(i(0x13, 5, A, A, 31 | 0x400)));
        faults("shift left with G 20", words(i(0x13, 1, A, A, 0x400)));
        faults("shift left with G 1", words(i(0x13, 1, A, A, 0x20)));
        faults("shift right with G 10", words(i(0x13, 5, A, A, 0x200)));
        faults("shift right with G 21", words(i(0x13, 5, A, A, 0x420)));
    }

    private static void products() {
        int low = Integer.MIN_VALUE;
        binary("product", 1, 0, 65537, 65537, 131073);
        binary("upper, signs", 1, 1, -1, -1, 0);
        binary("upper, signs", 1, 1, low, low, 0x40000000);
        binary("upper, one sign", 1, 2, -1, -1, -1);
        binary("upper, one sign", 1, 2, low, -1, low);
        binary("upper, one sign", 1, 2, 3, -1, 2);
        binary("upper, no sign", 1, 3, -1, -1, -2);
        binary("upper, no sign", 1, 3, low, 2, 1);
        binary("quotient", 1, 4, -7, 2, -3);
        binary("quotient by 0", 1, 4, -7, 0, -1);
        binary("quotient", 1, 4, low, -1, low);
        binary("quotient without sign", 1, 5, -7, 2, 0x7ffffffc);
        binary("quotient without sign", 1, 5, 7, -1, 0);
        binary("quotient without sign by 0", 1, 5, 7, 0, -1);
        binary("rest", 1, 6, -7, 2, -1);
        binary("rest", 1, 6, 7, -2, 1);
        binary("rest by 0", 1, 6, -7, 0, -7);
        binary("rest", 1, 6, low, -1, 0);
        binary("rest without sign", 1, 7, -7, 4, 1);
        binary("rest without sign by 0", 1, 7, -7, 0, -7);
    }

    private static void jumps() {
        gives("jump", 0, 0x400004, words(jal(A, 8), 0));
        gives("jump back", 0, 0x40000c, words(jal(0, 8), jal(0, 8), jal(A, -4)));
        gives("jump by a register", 0, 0x400008, words(auipc(T0, 0), i(0x67, 0, A, T0, 13), 0));
        gives("the register that it changes", 0, 0x400008, words(auipc(A, 0), i(0x67, 0, A, A, 12), 0));
        faults("jump to half a word", words(jal(A, 6)));
        faults("jump by a register to half a word", words(auipc(T0, 0), i(0x67, 0, A, T0, 10)));
        faults("jump by a register with F 1", words(auipc(T0, 0), i(0x67, 1, A, T0, 8)));
        faults("jump out", words(jal(A, -16)));
        faults("jump far out", words(jal(A, -1048576)));
        faults("jump into memory", words(lui(T0, 0x500), i(0x67, 0, A, T0, 0)));
        faults("jump to 0", words(i(0x67, 0, A, 0, 0)));
        faults("jump behind the words, where 0 stands", words(jal(0, 0x400)));
        faults("jump to the last word of the page", words(jal(0, 0xff0)));
        faults("jump behind the page", words(jal(0, 0x1000)));
        // the jump itself faults where its target is no word's address, but only the next instruction where nothing can be done
        HomeSystem system = new HomeSystem();
        int[] all = new int[16];
        java.util.Arrays.fill(all, addi(0, 0, 0));
        all[15] = jal(0, 2);
        Check.words(system, 0, all);
        Check.due("the last instruction's own fault", system.run(0, 0, 1, 0), HomeSystem.FAULT);
        all[15] = jal(0, -4096);
        Check.words(system, 0, all);
        Check.due("what stands there is not seen any more", system.run(0, 0, 1, 0), HomeSystem.WORN);
    }

    private static void branches() {
        int[][] pairs = {{3, 3}, {-1, 1}, {1, -1}, {Integer.MIN_VALUE, Integer.MAX_VALUE}};
        for (int[] pair : pairs) {
            int a = pair[0];
            int b = pair[1];
            boolean below = (a & 0xffffffffL) < (b & 0xffffffffL);
            boolean[] taken = {a == b, a != b, false, false, a < b, a >= b, below, !below};
            for (int f = 0; f < 8; f++) {
                int[] words = join(li(T0, a), li(T1, b), words(branch(f, T0, T1, 8), addi(A, A, 1), addi(A, A, 2)));
                if (f == 2 || f == 3) {
                    faults("branch " + f, words);
                } else {
                    gives("branch " + f + " of " + a + ", " + b, 0, taken[f] ? 2 : 3, words);
                }
            }
        }
        gives("a loop", 0, 30, words(addi(T0, 0, 10), addi(A, A, 3), addi(T0, T0, -1), branch(1, T0, 0, -8)));
        gives("no branch to half a word if it is not taken", 4, 4, words(branch(1, 0, 0, 6)));
        faults("branch to half a word", words(branch(0, 0, 0, 6)));
        faults("branch far back", words(branch(0, 0, 0, -4096)));
    }

    private static void loads() {
        int[] base = join(words(lui(T0, 0x500)), li(T1, 0x818283f4), words(s(2, T1, T0, 4)));
        gives("word", 0, 0x818283f4, base, words(i(3, 2, A, T0, 4)));
        gives("byte", 0, -12, base, words(i(3, 0, A, T0, 4)));
        gives("byte without sign", 0, 0xf4, base, words(i(3, 4, A, T0, 4)));
        gives("the third byte", 0, 0xffffff82, base, words(i(3, 0, A, T0, 6)));
        gives("the last byte", 0, 0x81, base, words(i(3, 4, A, T0, 7)));
        gives("half", 0, 0xffff83f4, base, words(i(3, 1, A, T0, 4)));
        gives("half without sign", 0, 0x8182, base, words(i(3, 5, A, T0, 6)));
        gives("before it", 0, 0, base, words(i(3, 2, A, T0, 0)));
        gives("backwards", 0, 0x818283f4, base, words(addi(T0, T0, 2047), i(3, 2, A, T0, -2043)));
        faults("half at an odd address", base, words(i(3, 1, A, T0, 5)));
        faults("half without sign at an odd address", base, words(i(3, 5, A, T0, 7)));
        faults("word at half a word", base, words(i(3, 2, A, T0, 6)));
        faults("word at an odd address", base, words(i(3, 2, A, T0, 1)));
        faults("F 3", base, words(i(3, 3, A, T0, 0)));
        faults("F 6", base, words(i(3, 6, A, T0, 0)));
        faults("F 7", base, words(i(3, 7, A, T0, 0)));
        gives("code", 0, addi(A, A, 1), words(auipc(T0, 0), i(3, 2, A, T0, 8), jal(0, 8)), words(addi(A, A, 1)),
                words(i(3, 2, A, T0, 12)));
        gives("0 behind the code", 9, 0, words(auipc(T0, 0), i(3, 2, A, T0, 2044)));
        gives("to the end of the page", 9, 0, words(lui(T0, 0x401), i(3, 4, A, T0, -1)));
        faults("not behind it", words(lui(T0, 0x401), i(3, 4, A, T0, 0)));
        faults("into register 0 from nowhere", words(i(3, 2, 0, 0, 0)));
    }

    private static void stores() {
        int[] base = join(words(lui(T0, 0x7ff)), li(T1, 0x11223344), words(s(2, T1, T0, 0)), li(T1, 0xaabbccdd));
        int[] look = words(i(3, 2, A, T0, 0));
        gives("byte 0", 0, 0x112233dd, base, words(s(0, T1, T0, 0)), look);
        gives("byte 1", 0, 0x1122dd44, base, words(s(0, T1, T0, 1)), look);
        gives("byte 3", 0, 0xdd223344, base, words(s(0, T1, T0, 3)), look);
        gives("half 0", 0, 0x1122ccdd, base, words(s(1, T1, T0, 0)), look);
        gives("half 1", 0, 0xccdd3344, base, words(s(1, T1, T0, 2)), look);
        gives("word", 0, 0xaabbccdd, base, words(s(2, T1, T0, 0)), look);
        gives("backwards", 0, 0xaabbccdd, base, words(addi(T2, T0, 100), s(2, T1, T2, -100)), look);
        faults("half at an odd address", base, words(s(1, T1, T0, 1)));
        faults("word at half a word", base, words(s(2, T1, T0, 2)));
        for (int f = 3; f < 8; f++) {
            faults("F " + f, base, words(s(f, T1, T0, 0)));
        }
        faults("code", words(auipc(T0, 0), s(0, T0, T0, 0)));
    }

    private static void regions() {
        int[] first = {0x500000, 0x7e0000};
        int[] last = {0x503fff, 0x7fffff};
        for (int k = 0; k < 2; k++) {
            gives("its first byte", 0, 5, li(T0, first[k]), words(addi(T1, 0, 5), s(0, T1, T0, 0), i(3, 0, A, T0, 0)));
            gives("its last byte", 0, 5, li(T0, last[k]), words(addi(T1, 0, 5), s(0, T1, T0, 0), i(3, 0, A, T0, 0)));
            faults("a store before it", li(T0, first[k]), words(s(0, T1, T0, -1)));
            faults("a load before it", li(T0, first[k]), words(i(3, 0, A, T0, -1)));
            faults("a store behind it", li(T0, last[k]), words(s(0, T1, T0, 1)));
            faults("a load behind it", li(T0, last[k]), words(i(3, 0, A, T0, 1)));
        }
        faults("0", words(i(3, 0, A, 0, 0)));
        faults("-1", words(i(3, 0, A, 0, -1)));
        faults("-2 to the 31", words(lui(T0, 0x80000), i(3, 0, A, T0, 0)));
        gives("the stack", 0, 77, words(addi(2, 2, -4), addi(T0, 0, 77), s(2, T0, 2, 0), i(3, 2, A, 2, 0)));
        // 0 again in the next run, and each process has its own
        HomeSystem system = new HomeSystem();
        Check.words(system, 0, join(words(lui(T0, 0x500), i(3, 2, T1, T0, 0), addi(T1, T1, 1), s(2, T1, T0, 0)),
                words(branch(1, A, 0, 36), addi(A, 0, 0), addi(B, 0, 1), addi(CALL, 0, 5), SYSTEM, addi(CALL, 0, 6), SYSTEM, addi(CALL, 0, 1), SYSTEM),
                words(lui(T0, 0x500), i(3, 2, A, T0, 0), addi(CALL, 0, 0), SYSTEM)));
        for (int k = 0; k < 3; k++) {
            Check.due("run", system.run(0, 0, 20, 0), HomeSystem.DONE);
            Check.due("its own", system.value(0), 1);
            Check.paper("the child's own", system, 0, 1);
        }
    }

    private static void unknownWords() {
        faults("0", words(0));
        faults("-1", words(-1));
        faults("a stop", words(0x100073));
        faults("a register of the machine", words(0x30001073));
        faults("a half instruction", words(0x4501));
        faults("F 1 of f", words(0x100f));
        faults("G 2", words(r(2, 0, A, A, A)));
        faults("G 20 with F 1", words(r(0x20, 1, A, A, A)));
        faults("G 20 with F 7", words(r(0x20, 7, A, A, A)));
        faults("G 21", words(r(0x21, 0, A, A, A)));
        for (int op = 3; op < 128; op += 4) {
            boolean known = op == 0x37 || op == 0x17 || op == 0x6f || op == 0x67 || op == 0x63 || op == 3 || op == 0x23 || op == 0x13
                    || op == 0x33 || op == 0xf || op == 0x73;
            if (!known) {
                faults("OP " + op, words(op));
            }
        }
        HomeSystem system = begun(0, HomeSystem.FAULT, words(addi(0, 0, 0)));
        Check.due("what stands behind the words", system.value(0), 0);
    }

    private static void beginnings() {
        gives("register a", -123456, -123456, words());
        gives("register 2", 3, 0x800000, words(addi(A, 2, 0)));
        for (int k = 0; k < 32; k++) {
            int want = k == 2 ? 0x800000 : k == A ? 3 : 0;
            gives("register " + k, 3, want, words(addi(A, k, 0)));
        }
        HomeSystem system = new HomeSystem();
        Check.words(system, 0, join(words(r(0, 0, A, T0, T1), addi(T0, 0, 7), addi(T1, 0, 8), addi(2, 0, 9), addi(CALL, 0, 1), SYSTEM, r(0, 0, A, A, 2)),
                words(addi(CALL, 0, 0), SYSTEM)));
        for (int k = 0; k < 2; k++) {
            Check.due("registers are set anew", system.run(0, 1, 1, 0), HomeSystem.DONE);
            Check.paper("registers are set anew", system, 0, 0);
        }
        int[] most = new int[512];
        java.util.Arrays.fill(most, addi(A, A, 1));
        most[511] = SYSTEM;
        Check.words(system, 0, most);
        Check.due("512 words", system.run(0, 1, 100, 0), HomeSystem.DONE);
        Check.due("value", system.value(0), 512);
        Check.due("511 and 1 take 32 times 16", system.run(0, 1, 32, 0), HomeSystem.DONE);
        Check.due("and no less", system.run(0, 1, 31, 0), HomeSystem.WORN);
    }

    private static void meters() {
        HomeSystem system = new HomeSystem();
        int[] sixteen = new int[17];
        java.util.Arrays.fill(sixteen, 0, 15, addi(0, 0, 0));
        sixteen[15] = SYSTEM;
        Check.words(system, 0, sixteen);
        Check.due("the call is the sixteenth", system.run(0, 5, 1, 0), HomeSystem.DONE);
        sixteen[15] = addi(0, 0, 0);
        sixteen[16] = SYSTEM;
        Check.words(system, 0, sixteen);
        Check.due("the call is the seventeenth", system.run(0, 5, 1, 0), HomeSystem.WORN);
        sixteen[16] = 0;
        Check.words(system, 0, sixteen);
        Check.due("whatever stands there", system.run(0, 5, 1, 0), HomeSystem.WORN);
        Check.due("no work at all", system.run(0, 5, 0, 0), HomeSystem.WORN);
        Check.words(system, 0, join(words(addi(CALL, 0, 1)), words(SYSTEM, jal(0, -4))));
        Check.due("a call takes 1", system.run(0, 5, 2, 512), HomeSystem.WORN);
        Check.due("paper", system.paper(0), 16);
        // a call that waits takes 1 in all, when it is done: main's 5 of work are taken before that
        Check.words(system, 1, join(words(addi(CALL, 0, 3), addi(A, 0, 0), SYSTEM, addi(CALL, 0, 0)),
                words(addi(0, 0, 0), addi(0, 0, 0), addi(0, 0, 0), addi(0, 0, 0), addi(0, 0, 0)), words(SYSTEM)));
        Check.right(system, 0, "int main(int n) { spawn(1, 0); while (n < 8) n++; send(1, n); return wait(1); }");
        Check.due("run", system.run(0, 0, 20, 512), HomeSystem.DONE);
        Check.due("value", system.value(0), 8);
    }

    private static void fates() {
        int[] numbers = {0x10, 0x11, 0x12, 0x13};
        int[] outcomes = {HomeSystem.OUT, HomeSystem.ZERO, HomeSystem.DEEP, HomeSystem.WORN};
        for (int k = 0; k < 4; k++) {
            HomeSystem system = begun(9, outcomes[k], words(addi(CALL, 0, numbers[k]), SYSTEM));
            Check.due("value", system.value(0), 0);
        }
        int[] others = {0xa, 0xb, 0xf, 0x14, 93, -1, 2047};
        for (int k = 0; k < others.length; k++) {
            begun(9, HomeSystem.FAULT, words(addi(CALL, 0, others[k]), SYSTEM));
        }
        HomeSystem system = begun(9, HomeSystem.ENDED, words(addi(CALL, 0, 9), SYSTEM));
        Check.due("value of ENDED", system.value(0), 9);
        system = begun(9, HomeSystem.DONE, words(SYSTEM));
        Check.due("value of DONE", system.value(0), 9);
    }

    private static void calls() {
        // put and send leave register a
        HomeSystem system = new HomeSystem();
        Check.words(system, 0, join(words(addi(CALL, 0, 1), SYSTEM, SYSTEM, addi(A, 0, 1), addi(B, 0, 7), addi(CALL, 0, 5), SYSTEM),
                words(addi(CALL, 0, 1), SYSTEM, addi(B, 0, 33), addi(CALL, 0, 2), SYSTEM, addi(CALL, 0, 1), SYSTEM),
                words(addi(A, 0, 1), addi(CALL, 0, 4), SYSTEM, addi(CALL, 0, 1), SYSTEM),
                words(addi(A, 0, 1), addi(CALL, 0, 3), SYSTEM, addi(CALL, 0, 1), SYSTEM),
                words(addi(A, 0, 1), addi(CALL, 0, 6), SYSTEM, addi(CALL, 0, 1), SYSTEM),
                words(addi(A, B, 0), addi(CALL, 0, 0), SYSTEM)));
        Check.right(system, 1, "int main(int n) { int x = recv(0); send(0, x * n); return x + n; }");
        Check.due("run", system.run(0, 4, 100, 100), HomeSystem.DONE);
        Check.paper("calls", system, 0, 4, 4, 1, 1, 1, 231, 40);
        Check.due("register b stays", system.value(0), 33);
        Check.due("spawn of nothing", begun(9, HomeSystem.DONE, words(addi(CALL, 0, 5), SYSTEM, addi(CALL, 0, 0), SYSTEM)).value(0), HomeSystem.NONE);
        for (int call = 2; call < 7; call++) {
            if (call != 5) {
                begun(0, HomeSystem.OUT, words(addi(CALL, 0, call), SYSTEM));
                begun(1, HomeSystem.OUT, words(addi(CALL, 0, call), SYSTEM));
            }
        }
        // a raw child of a text: it waits with 3 unread
        Check.words(system, 2, words(addi(CALL, 0, 3), addi(A, 0, 0), SYSTEM, addi(A, 0, 1), SYSTEM));
        Check.words(system, 3, words(addi(CALL, 0, 3), addi(A, 0, 0), SYSTEM, addi(A, 0, 0), jal(0, -8)));
        Check.right(system, 0, "int main(int n) { spawn(n, 0); for (int i = 0; i < 4; i++) send(1, i); put(1); return n == 2 ? wait(1) : recv(1); }");
        Check.due("run", system.run(0, 2, 100, 100), HomeSystem.DONE);
        Check.due("a handle of nobody", system.value(0), -HomeSystem.OUT);
        Check.due("both wait", system.run(0, 3, 100, 100), HomeSystem.WAITS);
        Check.due("raw child", system.outcome(1), HomeSystem.WAITS);
        Check.due("nothing unread", system.unread(1, false), 0);
    }

    private static HomeSystem moving(int call, int block, int address, int count, int want) {
        HomeSystem system = new HomeSystem();
        for (int k = 0; k < 128; k++) {
            system.setDisk(k, 500 + k);
        }
        int[] look = join(li(T0, address & -4), words(i(3, 2, A, T0, 0), addi(CALL, 0, 1), SYSTEM, i(3, 2, A, T0, 4), SYSTEM, addi(A, B, 0), addi(CALL, 0, 0), SYSTEM));
        Check.words(system, 0, join(words(addi(A, 0, block)), li(B, address), li(C, count), words(addi(CALL, 0, call), SYSTEM), look));
        Check.due("call " + call + " of block " + block + " at " + address + ", " + count, system.run(0, 0, 10, 0), want);
        return system;
    }

    private static void blocks() {
        int done = HomeSystem.DONE;
        int fault = HomeSystem.FAULT;
        int out = HomeSystem.OUT;
        Check.paper("get", moving(7, 2, 0x500010, 16, done), 0, 532, 533);
        Check.paper("get to the first", moving(7, 2, 0x500000, 16, done), 0, 532, 533);
        Check.paper("get 1", moving(7, 2, 0x500010, 1, done), 0, 532, 0);
        Check.paper("get 0", moving(7, 2, 0x500010, 0, done), 0, 0, 0);
        Check.paper("get below 0", moving(7, 2, 0x500010, -5, done), 0, 0, 0);
        Check.paper("get of many", moving(7, 7, 0x7e0000, Integer.MAX_VALUE, done), 0, 612, 613);
        Check.due("register b stays", moving(7, 2, 0x500010, 16, done).value(0), 0x500010);
        Check.due("set", moving(8, 2, 0x500010, 16, done).disk(47), 0);
        Check.due("set 2", moving(8, 2, 0x500010, 2, done).disk(33), 0);
        Check.due("set 2", moving(8, 2, 0x500010, 2, done).disk(34), 534);
        Check.due("set of code", moving(8, 2, 0x400000, 2, done).disk(32), addi(A, 0, 2));
        Check.due("set behind the words", moving(8, 2, 0x400ff8, 2, done).disk(33), 0);
        Check.due("set to the end", moving(8, 2, 0x503ff8, 2, done).disk(33), 0);
        Check.due("set beyond the end", moving(8, 2, 0x503ff8, 3, fault).disk(32), 532);
        Check.due("set beyond the page", moving(8, 2, 0x400ff8, 3, fault).disk(32), 532);
        Check.due("set before memory", moving(8, 2, 0x4ffffc, 3, fault).disk(32), 532);
        moving(7, 2, 0x400000, 1, fault);
        moving(7, 2, 0x400000, 0, done);
        moving(7, 2, 0x503ff4, 3, done);
        moving(7, 2, 0x503ff4, 4, fault);
        moving(7, 2, 0x7fffc0, 100, done);
        moving(7, 2, 0x7fffc4, 100, fault);
        moving(7, 2, 0x500002, 0, fault);
        moving(8, 2, 0x500001, -1, fault);
        moving(8, 2, 0x500003, 1, fault);
        moving(7, 8, 0x500001, 1, out);
        moving(7, -1, 0x500000, 1, out);
        moving(8, 8, 0, 1, out);
        // only process 0 may
        HomeSystem system = new HomeSystem();
        Check.right(system, 0, "int main(int n) { spawn(1, 0); return wait(1); }");
        Check.words(system, 1, words(addi(B, 0, 1), addi(CALL, 0, 8), SYSTEM));
        Check.due("run", system.run(0, 0, 9, 99), HomeSystem.DONE);
        Check.due("OUT before FAULT", system.value(0), -HomeSystem.OUT);
    }

    private static void longPaper() {
        HomeSystem system = begun(0, HomeSystem.WORN, words(addi(CALL, 0, 1), SYSTEM, addi(A, A, 1), jal(0, -8)));
        Check.due("paper", system.paper(0), 533);
        Check.due("paperAt 255", system.paperAt(0, 255), 255);
        Check.throwing("paperAt 256", Check.INDEX, () -> system.paperAt(0, 256));
        Check.throwing("paperAt 532", Check.INDEX, () -> system.paperAt(0, 532));
    }
}
