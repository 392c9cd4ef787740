/** Promises 8, 9, 10, 11 and 12: what a text does when it runs. */
public final class RunningTest {
    public static void main(String[] args) {
        operators();
        assignments();
        chars();
        arrays();
        variables();
        order();
        statements();
        nestedLoops();
        functions();
        Check.end("RunningTest");
    }

    private static void operators() {
        Check.expression("2147483647 + n", 1, Integer.MIN_VALUE);
        Check.expression("n * n", 65536 + 1, 131073);
        Check.expression("-n - 2", Integer.MIN_VALUE, Integer.MAX_VALUE - 1);
        Check.expression("n / 2 * 100 + n % 2", -7, -301);
        Check.expression("7 / n * 100 + 7 % n", -2, -299);
        Check.expression("n / -1", Integer.MIN_VALUE, Integer.MIN_VALUE);
        Check.expression("n % -1", Integer.MIN_VALUE, 0);
        Check.expression("n << 33", 3, 6);
        Check.expression("n >> -31", -8, -4);
        Check.expression("n >> 1", -3, -2);
        Check.expression("1 << 31", 0, Integer.MIN_VALUE);
        Check.expression("n < 3 == n <= 3", 3, 0);
        Check.expression("(n > 2) + (n >= 3) * 10 + (n != 3) * 100 + (n == 3) * 1000", 3, 1011);
        Check.expression("(n > 3) + (n >= 4) * 10 + (n <= 2) * 100 + (n <= 3) * 1000 + (n < 3) * 10000", 3, 1000);
        Check.expression("(n < 4) + (n >= 2) * 10 + (n == 2) * 100 + (n != 2) * 1000", 3, 1011);
        Check.expression("-1 < 4294967295 == 0", 0, 1);
        Check.expression("!n * 100 + !!n * 10 + ~n", 5, 4);
        Check.expression("n & 6 | 9 ^ 3", 5, 14);
        Check.expression("1 + 2 * 3 - 4 / 2 << 1 < 3 == 0 & 7", 0, 1);
        Check.expression("10 - 3 - 2", 0, 5);
        Check.expression("100 / 10 / 5 * 3 % 4", 0, 2);
        Check.expression("(n && 4) + (n || 0) * 10 + (0 || 0) * 100", 9, 11);
        Check.expression("n ? 0 ? 1 : 2 : 3", 1, 2);
        Check.expression("0 && 1 / 0 || 1 || 1 / 0", 0, 1);
        Check.expression("n ? 5 : 1 / 0", 1, 5);
        String main = "int main(int n) { return ";
        Check.outcome(main + "1 / n; }", 0, 9, 99, HomeSystem.ZERO);
        Check.outcome(main + "1 % n; }", 0, 9, 99, HomeSystem.ZERO);
        Check.outcome(main + "n /= 0; }", 1, 9, 99, HomeSystem.ZERO);
        Check.outcome(main + "n %= 0; }", 1, 9, 99, HomeSystem.ZERO);
        Check.outcome("int main(int n) { 1 / 0; }", 1, 9, 99, HomeSystem.ZERO);
    }

    private static void assignments() {
        Check.expression("(n += 2) * 100 + n", 3, 505);
        Check.expression("(n -= 2) + (n *= 7) * 10 + (n /= 2) * 100 + (n %= 2) * 1000", 3, 1371);
        Check.expression("(n <<= 3) + (n >>= 1) + (n &= 12) + (n |= 3) + (n ^= 5)", 3, 24 + 12 + 12 + 15 + 10);
        Check.expression("n++ * 100 + n", 3, 304);
        Check.expression("++n * 100 + n", 3, 404);
        Check.expression("n-- * 100 + --n", 3, 301);
        Check.expression("(n)++ + - -n", 3, 7);
        // x is read behind e
        Check.expression("n += n = 5", 3, 10);
        Check.expression("n + (n = 5) + n", 3, 13);
        Check.expression("n * 10 + (n++ + n)", 3, 37);
        Check.value("int a[3]; int main(int n) { a[n] = n = 2; return a[1] * 10 + a[2]; }", 1, 20);
        Check.value("int a[3]; int main(int n) { a[n++] += n; return a[1] * 10 + n; }", 1, 22);
        Check.value("int a[3]; int main(int n) { int x = a[n++]++ + a[1]; return x * 100 + a[1] * 10 + n; }", 1, 112);
    }

    private static void chars() {
        Check.value("int main(int n) { char c = n; return c; }", 300, 44);
        Check.value("int main(int n) { char c; return (c = n) + c; }", -1, 510);
        Check.value("int main(int n) { char c = 255; return c++ * 1000 + c; }", 0, 255000);
        Check.value("int main(int n) { char c; return --c; }", 0, 255);
        Check.value("int main(int n) { char c = 200; return (c += 100) * 10 + (c <<= 3); }", 0, 440 + 96);
        Check.value("int f(char c) { return c; } int main(int n) { return f(n) + f(-1); }", 257, 256);
        Check.value("char f(int x) { return x; } int main(int n) { return f(n) + f(-1); }", 257, 256);
        Check.value("char f() { } int main(int n) { return f(); }", 257, 0);
        Check.value("char c = 513, d[3] = { 256, -1 }; int main(int n) { return c + d[0] + d[1] + d[2]; }", 0, 256);
        Check.value("int main(int n) { char d[5] = { 257, 258, 259 }; d[3] = 260; d[4] -= 1; return d[0] + d[1] * 10 + d[2] * 100 + d[3] * 1000 + d[4] * 10000; }",
                0, 2554321);
        Check.value("char d[6]; int main(int n) { d[1] = 511; d[2]--; d[4] |= 255; return d[0] + d[1] + d[2] * 1000 + d[3] + d[4] + d[5]; }", 0, 255510);
        Check.value("int main(int n) { char c = 'a'; return c > -1; }", 0, 1);
    }

    private static void arrays() {
        String a = "int a[3] = { 5, 6 }; int main(int n) { ";
        Check.value(a + "return a[0] * 100 + a[1] * 10 + a[2]; }", 0, 560);
        Check.outcome(a + "return a[n]; }", 3, 9, 99, HomeSystem.OUT);
        Check.outcome(a + "return a[n]; }", -1, 9, 99, HomeSystem.OUT);
        Check.outcome(a + "a[n]; }", 3, 9, 99, HomeSystem.OUT);
        Check.outcome(a + "a[n] = 1; }", 3, 9, 99, HomeSystem.OUT);
        Check.outcome(a + "a[n]++; }", 3, 9, 99, HomeSystem.OUT);
        Check.outcome(a + "a[n] /= 0; }", 3, 9, 99, HomeSystem.OUT);
        Check.outcome(a + "a[n] /= 0; }", 2, 9, 99, HomeSystem.ZERO);
        Check.outcome(a + "a[n] = 1 / 0; }", 3, 9, 99, HomeSystem.ZERO);
        // e is worked out before the element is looked up
        HomeSystem system = new HomeSystem();
        Check.right(system, 0, "int a[1]; int f() { put(4); return 1; } int main(int n) { put(3); a[n] = f(); put(5); }");
        Check.due("out behind e", system.run(0, 1, 9, 99), HomeSystem.OUT);
        Check.paper("out behind e", system, 0, 3, 4);
        Check.due("value of OUT", system.value(0), 0);
        // handed on themselves
        Check.value("int f(int a[], int i) { a[i] = 7; return len(a); } int g(int b[]) { return f(b, 1) + f((b), 2); } "
                + "int main(int n) { int x[3]; int y = g(x); return y * 1000 + x[0] * 100 + x[1] * 10 + x[2]; }", 0, 6077);
        Check.value("char s[5] = \"abc\"; int f(char t[]) { t[1] = 'z'; return t[2]; } int main(int n) { return f(s) * 1000 + s[1]; }", 0, 99122);
        Check.outcome("int f(int a[]) { return a[3]; } int b[9]; int main(int n) { int x[3]; return f(x); }", 0, 9, 99, HomeSystem.OUT);
        Check.value("char c[9]; int f(char d[]) { return len(d); } int main(int n) { return f(c) + len(c); }", 0, 18);
        Check.value("int f(char d[]) { d[6] = 300; return d[5] + d[6] + d[7]; } int main(int n) { char c[9] = \"abcdefgh\"; return f(c); }", 0, 'f' + 44 + 'h');
    }

    private static void variables() {
        // each call's variables are 0 at first, and a declaration makes them so each time
        Check.value("int f(int n) { int x; { int y[2]; x += 1; y[1] += n; return x * 10 + y[1]; } } int main(int n) { return f(1) + f(2) * 100; }", 0, 1211);
        Check.value("int main(int n) { int s = 0; for (int i = 0; i < 3; i++) { int x; int a[2] = { 3 }; x++; a[0]++; a[1]++; s += x + a[0] * 10 + a[1] * 100; } return s; }",
                0, 423);
        Check.value("int main(int n) { int s = 0; for (int i = 0; i < 3; i++) { char a[6] = \"bc\"; a[1]++; a[5]++; s += a[1] + a[5]; } return s; }", 0, 303);
        // one that is jumped over keeps what it had
        Check.value("int main(int n) { int s = 0; for (int i = 0; i < 3; i++) switch (i) { case 0: int x = 5; default: s = s * 10 + x++; } return s; }", 0, 567);
        Check.value("int main(int n) { switch (n) { case 0: int x = 5; case 1: return x; } }", 1, 0);
        Check.value("int main(int n) { int s = 0; for (int i = 0; i < 3; i++) { int x[3]; char y; switch (i) { case 0: int z = 5; break; default: s += z; } } return s; }",
                0, 10);
        Check.value("int main(int n) { int s = 0; for (int i = 0; i < 90; i++) { int a = 1, b = a, c = b, d = c, e = d, f = e, g; f; g = f; s += 1 + (2 * (g + 3)); } return s; }",
                0, 810);
        Check.value("int x = 3, y; int f() { return x++ + y; } int main(int n) { f(); y = 10; return f(); }", 0, 14);
        Check.value("int i; int f() { int a[4]; a[i]++; i++; return i < 4 ? f() + a[3] : a[3]; } int main(int n) { return f(); }", 0, 1);
        HomeSystem system = new HomeSystem();
        Check.right(system, 0, "int x = 3; int a[2] = { 4 }; int main(int n) { x++; a[0]++; a[1]++; return x * 100 + a[0] * 10 + a[1]; }");
        for (int i = 0; i < 3; i++) {
            Check.due("run " + i, system.run(0, 0, 9, 99), HomeSystem.DONE);
            Check.due("the variables of the text are set anew", system.value(0), 451);
        }
    }

    private static void order() {
        HomeSystem system = new HomeSystem();
        Check.right(system, 0, "int a[9]; int p(int x) { put(x); return x; } int f(int x, int y, int z) { return p(x + y + z); } "
                + "int main(int n) { p(1) + p(2) * p(3) - p(4); f(p(5), p(6), p(7)); a[p(8)] = p(9); a[p(1)] += p(10); "
                + "p(0) && p(11); p(0) || p(12); p(1) ? p(13) : p(14); p(0) ? p(15) : p(16); p(2) << p(1); return 0; }");
        Check.due("order", system.run(0, 0, 100, 512), HomeSystem.DONE);
        Check.paper("order", system, 0, 1, 2, 3, 4, 5, 6, 7, 18, 8, 9, 1, 10, 0, 0, 12, 1, 13, 0, 16, 2, 1);
    }

    private static void statements() {
        Check.value("int main(int n) { if (n) if (0) return 1; else return 2; return 3; }", 1, 2);
        Check.value("int main(int n) { if (n) if (0) return 1; else return 2; return 3; }", 0, 3);
        Check.value("int main(int n) { int s = 0; while (n) s += n--; return s; }", 4, 10);
        Check.value("int main(int n) { int s = 0; do s += n--; while (n > 0); return s; }", -4, -4);
        Check.value("int main(int n) { int s = 0; for (int i = 0; ; i++) { if (i == 2) continue; if (i == 5) break; s = s * 10 + i; } return s; }", 0, 134);
        Check.value("int main(int n) { int s = 0; do { s++; if (s < 3) continue; break; } while (1); return s; }", 0, 3);
        Check.value("int main(int n) { int s = 0; do { s++; continue; } while (s < n); return s; }", 4, 4);
        Check.value("int main(int n) { int s = 0; while (n--) { if (n & 1) continue; s += n; } return s; }", 6, 6);
        String choose = "int main(int n) { int s = 0; switch (n) { case 1: s += 1; case 2: s += 10; break; default: s += 100; case -3: s += 1000; } return s; }";
        Check.value(choose, 1, 11);
        Check.value(choose, 2, 10);
        Check.value(choose, 5, 1100);
        Check.value(choose, -3, 1000);
        Check.value("int main(int n) { switch (n) { case 1: return 5; } return 6; }", 2, 6);
        Check.value("int main(int n) { int s = 0; switch (n++) { case 1: switch (n) { case 2: s++; break; default: s = 50; } s += 10; case 9: s += 100; } return s + n; }",
                1, 113);
        Check.value("int main(int n) { int s = 0; for (int i = 0; i < 4; i++) { switch (i) { case 1: continue; case 2: break; default: s += 10; } s++; } return s; }",
                0, 23);
        Check.value("int main(int n) { for (n = 3; n < 10; ) n += 4; return n; }", 0, 11);
        Check.value("int main(int n) { while (n) while (1) { n--; break; } return n; }", 3, 0);
        Check.value("enum { a = 2 }; int main(int n) { switch (n) { case a + 1: return 7; case 'x': return 8; } return 9; }", 'x', 8);
    }

    /** Loops within loops: break and continue go with the innermost one, before and behind another. */
    private static void nestedLoops() {
        String[] heads = {"for (int i = 0; i < 4; i++) {", "int i = -1; while (++i < 4) {", "int i = -1; do { i++;"};
        String[] tails = {"}", "}", "} while (i < 4);"};
        String leave = " if (i == 1) continue; if (i == 3) break; ";
        String[] loops = {"while (s % 10 < i) { s++; continue; }", "do { if (s % 10 == i) break; s++; continue; } while (1);",
            "for (; s % 10 < i; s++) { if (s == 1000) break; continue; }",
            "for (;;) { while (1) break; if (s % 10 < i) { s++; continue; } break; }",
            "switch (i) { case 1: s++; break; case 2: s++; while (i == 2 && s % 10 < 2) s++; break; case 3: s++; default: }"};
        for (int h = 0; h < heads.length; h++) {
            for (int i = 0; i < loops.length; i++) {
                String before = "int main(int n) { int s = 0; " + heads[h] + loops[i] + leave + " s += 10; " + tails[h] + " return s; }";
                Check.value(before, 0, 23);
                String behind = "int main(int n) { int s = 0; " + heads[h] + leave + loops[i] + " s += 10; " + tails[h] + " return s; }";
                Check.value(behind, 0, 22);
            }
        }
    }

    private static void functions() {
        Check.value("int even(int n) { return n ? odd(n - 1) : 1; } int odd(int n) { return n ? even(n - 1) : 0; } int main(int n) { return even(n) * 10 + odd(n); }", 7, 1);
        Check.value("int main(int n) { return n > 1 ? n * main(n - 1) : 1; }", 5, 120);
        Check.value("int f(int a, int b[], char c, char d[], int e) { return a + b[1] * 10 + c * 100 + d[1] * 1000 + e * 10000; } "
                + "int b[2] = { 0, 2 }; char d[2] = { 0, 4 }; int main(int n) { return f(1, b, 3, d, 5); }", 0, 54321);
        Check.value("int main(int n) { }", 5, 0);
        Check.value("void f(int n) { if (n) return; put(n); } int main(int n) { f(1); f(0); return 2; }", 5, 2);
        HomeSystem system = new HomeSystem();
        Check.right(system, 0, "int main(int n) { put(n); put(2147483648); end(n + 1); put(3); }");
        Check.due("ended", system.run(0, 8, 9, 99), HomeSystem.ENDED);
        Check.due("value of ENDED", system.value(0), 9);
        Check.paper("ended", system, 0, 8, Integer.MIN_VALUE);
        Check.right(system, 1, "int main(int n) { for (;;) put(n++); }");
        Check.due("worn", system.run(1, 8, 100, 99), HomeSystem.WORN);
        Check.due("value of WORN", system.value(0), 0);
        Check.due("paper of WORN", system.paper(0), 49);
        Check.due("last of WORN", system.paperAt(0, 48), 56);
        Check.throwing("behind the last", Check.INDEX, () -> system.paperAt(0, 49));
    }
}
