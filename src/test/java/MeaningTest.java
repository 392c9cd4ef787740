/** Promises 4 and 5: the fourteen ways in which a text is wrong, and where. */
public final class MeaningTest {
    private static final String MAIN = " int main(int n) { }";

    public static void main(String[] args) {
        knownAlready();
        notKnown();
        arrays();
        arguments();
        nothing();
        assigned();
        constants();
        sizes();
        leaps();
        cases();
        returns();
        wholeTexts();
        theFirst();
        Check.end("MeaningTest");
    }

    private static void knownAlready() {
        Check.wrongText(1, "int a, `a;" + MAIN);
        Check.wrongText(1, "int a; char `a[2];" + MAIN);
        Check.wrongText(1, "enum { a, `a };" + MAIN);
        Check.wrongText(1, "int a; int f() { int a; } char `a;" + MAIN);
        Check.wrongText(1, "enum { a }; int `a;" + MAIN);
        Check.wrongText(1, "int `f; int f() { }" + MAIN);
        Check.wrongText(1, "int f() { } enum { `f };" + MAIN);
        Check.wrongText(1, "int `main;" + MAIN);
        Check.wrongText(1, "int `put;" + MAIN);
        Check.wrongText(1, "enum { `len };" + MAIN);
        Check.wrongText(1, "int `end() { }" + MAIN);
        Check.wrongText(1, "int f() { } void `f(int a) { }" + MAIN);
        Check.wrongText(1, "int f(int a, char `a[]) { }" + MAIN);
        Check.wrongText(1, "int f(int a) { int `a; }" + MAIN);
        Check.wrongText(1, "int main(int n) { int x; { int x; } int `x; }");
        Check.wrongText(1, "int main(int n) { for (int i = 0;;) int `i; }");
        Check.wrongText(1, "int main(int n) { switch (n) { case 1: int x; case 2: int `x; } }");
        Check.wrongText(1, "int main(int n) { if (n) int x; else int `x; }");
        Check.value("int x; int main(int x) { { int x = 3; } for (int x = 0; x < 2; x++) { int x; } return x; }", 9, 9);
        Check.value("int g(int g) { return g; } int main(int n) { int put = 2, main = 3; return g(put + main); }", 0, 5);
        Check.value("int main(int n) { for (int i = 0; i < 1; i++) ; for (int i = 7;;) return i; }", 0, 7);
        Check.value("int main(int n) { int n1 = 1; switch (n) { case 0: int n1 = 5; } return n1; }", 0, 1);
        Check.value("enum { a = 3 }; int main(int n) { char a = 4; return a; }", 0, 4);
    }

    private static void notKnown() {
        Check.wrongText(2, "int main(int n) { return `x; }");
        Check.wrongText(2, "int main(int n) { return `x(1); }");
        Check.wrongText(2, "int main(int n) { return `x[1]; }");
        Check.wrongText(2, "int main(int n) { return `main; }");
        Check.wrongText(2, "int main(int n) { return `len + 1; }");
        Check.wrongText(2, "int main(int n) { return `n(1); }");
        Check.wrongText(2, "enum { e }; int main(int n) { return `e(); }");
        Check.wrongText(2, "int a[2]; int main(int n) { return `a(1); }");
        Check.wrongText(2, "int main(int n) { int put; `put(1); }");
        Check.wrongText(2, "int main(int n) { int x = `x; }");
        Check.wrongText(2, "enum { a = `a };" + MAIN);
        Check.wrongText(2, "int a[`a];" + MAIN);
        Check.wrongText(2, "int main(int n) { { int x; } `x = 1; }");
        Check.wrongText(2, "int main(int n) { for (int x;;) ; `x = 1; }");
        Check.wrongText(2, "int main(int n) { switch (n) { case 1: int x; } `x = 1; }");
        Check.wrongText(2, "int main(int n) { do { int x; } while (`x); }");
        Check.wrongText(2, "int f() { return `x; } int x;" + MAIN);
        Check.wrongText(2, "int f(int a) { } int main(int n) { return `a; }");
        Check.value("int main(int n) { return f(); } int f() { return 4; }", 0, 4);
        Check.value("int x = 4; int main(int n) { int y = x + 1, x = y + 1; return x; }", 0, 6);
        Check.value("int main(int n) { if (1) int x = 3; return x; }", 0, 3);
        Check.value("int main(int n) { do int x = 3; while (x == 4); return x; }", 0, 3);
        // the inner one is not known within its own declaration
        Check.value("int x = 4; int main(int n) { { int x = x + 1, y = x; return y; } }", 0, 5);
        // what is unknown makes nothing else wrong
        Check.wrongText(2, "int f(int a[]) { } int main(int n) { return f(`x); }");
        Check.wrongText(2, "int main(int n) { `x = 1; ++x; x(1) + 1; }");
        Check.wrongText(2, "int main(int n) { (`x)++; }");
    }

    private static void arrays() {
        String a = "int a[2]; char c[2]; int f(int x[]) { } int g(char x[]) { } void v() { } ";
        Check.wrongText(3, a + "int main(int n) { return `a; }");
        Check.wrongText(3, a + "int main(int n) { return `(a); }");
        Check.wrongText(3, a + "int main(int n) { return n + `a; }");
        Check.wrongText(3, a + "int main(int n) { `a; }");
        Check.wrongText(3, a + "int main(int n) { for (`a;;) ; }");
        Check.wrongText(3, a + "int main(int n) { for (;`a;) ; }");
        Check.wrongText(3, a + "int main(int n) { for (;;`(a)) ; }");
        Check.wrongText(3, a + "int main(int n) { if (`a) ; }");
        Check.wrongText(3, a + "int main(int n) { switch (`a) { } }");
        Check.wrongText(3, a + "int main(int n) { n ? `a : n; }");
        Check.wrongText(3, a + "int main(int n) { n ? n : `a; }");
        Check.wrongText(3, a + "int main(int n) { `a ? n : n; }");
        Check.wrongText(3, a + "int main(int n) { `a = n; }");
        Check.wrongText(3, a + "int main(int n) { n = `a; }");
        Check.wrongText(3, a + "int main(int n) { `a++; }");
        Check.wrongText(3, a + "int main(int n) { --`(a); }");
        Check.wrongText(3, a + "int main(int n) { !`a; }");
        Check.wrongText(3, a + "int main(int n) { +`a; }");
        Check.wrongText(3, a + "int main(int n) { a[`a]; }");
        Check.wrongText(3, a + "int main(int n) { int x = `a; }");
        Check.wrongText(3, a + "int main(int n) { put(`a); }");
        Check.wrongText(3, a + "int main(int n) { f(`n); }");
        Check.wrongText(3, a + "int main(int n) { f(`a[0]); }");
        Check.wrongText(3, a + "int main(int n) { f(`c); }");
        Check.wrongText(3, a + "int main(int n) { g(`a); }");
        Check.wrongText(3, a + "int main(int n) { f(`(v())); }");
        Check.wrongText(3, a + "int main(int n) { len(`n); }");
        Check.wrongText(3, a + "int main(int n) { get(1, `c); }");
        Check.wrongText(3, a + "int main(int n) { set(1, `(1)); }");
        Check.wrongText(3, a + "int main(int n) { `n[1]; }");
        Check.wrongText(3, a + "int main(int n) { `put[1] = 3; }");
        Check.wrongText(3, a + "enum { e }; int main(int n) { return `e[0]; }");
        Check.wrongText(3, a + "int b[`a];" + MAIN);
        Check.wrongText(3, a + "int b = `a;" + MAIN);
        Check.wrongText(3, "int main(int n) { char s[3]; `s = n; }");
        Check.value(a + "int main(int n) { f(a); g((c)); return len(a) + len((c)); }", 0, 4);
    }

    private static void arguments() {
        String f = "int a[2]; int f(int x, int y) { return x; } void v() { } ";
        Check.wrongText(4, f + "int main(int n) { return `f(1); }");
        Check.wrongText(4, f + "int main(int n) { return `f(1, 2, 3); }");
        Check.wrongText(4, f + "int main(int n) { `v(1); }");
        Check.wrongText(4, "int main(int n) { `len(); }");
        Check.wrongText(4, "int main(int n) { `send(1); }");
        Check.wrongText(4, "int main(int n) { return `main(); }");
        // those too many may be anything, and those of what is no function's
        Check.wrongText(4, f + "int main(int n) { return 1 + `f(1, 2, a, v()); }");
        Check.wrongText(2, f + "int main(int n) { return 1 + `x(a, v()); }");
        Check.wrongText(4, f + "int main(int n) { return `f(a); }");
        Check.wrongText(4, f + "int main(int n) { return `f(1, 2, x); }");
        Check.wrongText(3, f + "int main(int n) { return f(`a, 1); }");
        Check.wrongText(4, f + "int main(int n) { return 1 + `v(1); }");
    }

    private static void nothing() {
        String v = "void v() { return; } int a[2]; int f(int x) { return x; } ";
        Check.wrongText(5, v + "int main(int n) { return `v(); }");
        Check.wrongText(5, v + "int main(int n) { return (`v()); }");
        Check.wrongText(5, v + "int main(int n) { return 1 + ((`put(1))); }");
        Check.wrongText(5, v + "int main(int n) { -`v(); }");
        Check.wrongText(5, v + "int main(int n) { n ? `put(1) : put(2); }");
        Check.wrongText(5, v + "int main(int n) { n ? 1 : `put(2); }");
        Check.wrongText(5, v + "int main(int n) { `v() ? 1 : 2; }");
        Check.wrongText(5, v + "int main(int n) { n = `v(); }");
        Check.wrongText(5, v + "int main(int n) { a[`v()] = 1; }");
        Check.wrongText(5, v + "int main(int n) { f(`v()); }");
        Check.wrongText(5, v + "int main(int n) { while (`v()) ; }");
        Check.wrongText(5, v + "int main(int n) { for (;`v();) ; }");
        Check.wrongText(5, v + "int main(int n) { int x = `v(); }");
        Check.wrongText(5, v + "int main(int n) { n && `v(); }");
        Check.wrongText(5, "int a[`put(1)];" + MAIN);
        Check.value(v + "int main(int n) { (v()); for (v(); n; v()) n--; return 3; }", 2, 3);
    }

    private static void assigned() {
        String v = "void v() { } int a[2]; enum { e }; ";
        Check.wrongText(6, v + "int main(int n) { `1 = n; }");
        Check.wrongText(6, v + "int main(int n) { `e = n; }");
        Check.wrongText(6, v + "int main(int n) { `-n = n; }");
        Check.wrongText(6, v + "int main(int n) { `+n = n; }");
        Check.wrongText(6, v + "int main(int n) { `(n + 1) += n; }");
        Check.wrongText(6, v + "int main(int n) { `(n = 1) = n; }");
        Check.wrongText(6, v + "int main(int n) { `n++ = n; }");
        Check.wrongText(6, v + "int main(int n) { `++n = n; }");
        Check.wrongText(6, v + "int main(int n) { ++`++n; }");
        Check.wrongText(6, v + "int main(int n) { ++`n++; }");
        Check.wrongText(6, v + "int main(int n) { --`-n; }");
        Check.wrongText(6, v + "int main(int n) { `5++; }");
        Check.wrongText(6, v + "int main(int n) { `(n ? n : n)--; }");
        Check.wrongText(6, v + "int main(int n) { `main(1) = 2; }");
        Check.wrongText(6, v + "int main(int n) { `v() = 2; }");
        Check.wrongText(6, v + "int main(int n) { `(v()) = 2; }");
        Check.wrongText(6, v + "int main(int n) { `v()++; }");
        Check.wrongText(6, v + "int main(int n) { ++`v(); }");
        Check.value(v + "int main(int n) { (n) = 3; ((a[1]))++; ++(a[1]); return n + a[1]; }", 0, 5);
    }

    private static void constants() {
        Check.wrongText(7, "int v; int a[`v];" + MAIN);
        Check.wrongText(7, "int v; int a[`1 + v];" + MAIN);
        Check.wrongText(7, "int v; int a = `(1 + v);" + MAIN);
        Check.wrongText(7, "int v; int a = `v = 1;" + MAIN);
        Check.wrongText(7, "int v; int a = `++v;" + MAIN);
        Check.wrongText(7, "int v; int a = `- v++;" + MAIN);
        Check.wrongText(7, "int a = `recv(1);" + MAIN);
        Check.wrongText(7, "int b[1]; int a = `1 + len(b);" + MAIN);
        Check.wrongText(7, "int b[1]; int a = `b[0];" + MAIN);
        Check.wrongText(7, "int b[1]; int a = `1 + b;" + MAIN);
        Check.wrongText(7, "int v; enum { a = `0 && v };" + MAIN);
        Check.wrongText(7, "int v; enum { a = `1 ? 2 : v };" + MAIN);
        Check.wrongText(7, "int v; int a[2] = { 1, `v };" + MAIN);
        Check.wrongText(7, "int main(int n) { int a[`n]; }");
        Check.wrongText(7, "int main(int n) { int a[2] = { `n }; }");
        Check.wrongText(7, "int main(int n) { switch (n) { case `n: } }");
        Check.wrongText(7, "enum { a = `1 / 0 };" + MAIN);
        Check.wrongText(7, "enum { a = `2 + 1 % (1 - 1) };" + MAIN);
        Check.wrongText(7, "enum { a = `1 && 1 / 0 };" + MAIN);
        Check.wrongText(7, "enum { a = `0 || 1 / 0 };" + MAIN);
        Check.wrongText(7, "enum { a = `1 ? 1 / 0 : 2 };" + MAIN);
        Check.wrongText(7, "enum { a = `1 / 0 && 0 };" + MAIN);
        Check.wrongText(7, "enum { a = `(1 / 0 ? 1 : 2) };" + MAIN);
        Check.value("enum { a = 0 && 1 / 0, b = 1 || 1 / 0, c = 1 ? 7 : 1 / 0, d = 0 ? 1 % 0 : 8 };"
                + "int main(int n) { return a + b * 10 + c * 100 + d * 1000; }", 0, 8710);
        Check.value("enum { a = 1 && 5, b = 4 || 0, c = 0 || 7, d = 0 || 0, e = 5 && 0, f = 0 && 1 };"
                + "int main(int n) { return a + b * 10 + c * 100 + d * 1000 + e * 10000 + f * 100000; }", 0, 111);
        // names that are not known don't matter for that
        Check.wrongText(2, "int a[1 + `x];" + MAIN);
        Check.wrongText(2, "int a[1 + `main];" + MAIN);
        Check.wrongText(2, "int a = 1 / `x;" + MAIN);
        Check.wrongText(2, "int a = 1 + (`x ? 1 / 0 : 2);" + MAIN);
        Check.wrongText(7, "int a = `1 / 0 + x;" + MAIN);
        Check.wrongText(7, "int a = `(x) + 1 / 0;" + MAIN);
        // within a function an e behind = may be anything
        Check.value("int main(int n) { int x = n++ + main2(); return x; } int main2() { return 3; }", 4, 7);
        Check.value("enum { a = 3, b = -a, c = ~b + !a * 2 << 1 }; int x = a > b ? c : 9; char y = 300; int main(int n) { return x * 1000 + y; }",
                0, 4044);
        Check.value("enum { m = 2147483647, w }; int main(int n) { return w; }", 0, Integer.MIN_VALUE);
        Check.value("int x = -2147483648 / -1, y = -2147483648 % -1; int main(int n) { return x + y; }", 0, Integer.MIN_VALUE);
    }

    private static void sizes() {
        Check.wrongText(8, "int a[`0];" + MAIN);
        Check.wrongText(8, "int a[`-1];" + MAIN);
        Check.wrongText(8, "int a[`4097];" + MAIN);
        Check.wrongText(8, "int a[`(2147483648)];" + MAIN);
        Check.wrongText(8, "int main(int n) { char a[`4097]; }");
        Check.wrongText(8, "int a[2] = `{ 1, 2, 3 };" + MAIN);
        Check.wrongText(8, "int main(int n) { char a[1] = `{ 1, 2 }; }");
        Check.wrongText(8, "char a[3] = `\"abc\";" + MAIN);
        Check.wrongText(8, "char a[1] = `\"\\n\";" + MAIN);
        Check.wrongText(8, "int a[9] = `\"abc\";" + MAIN);
        Check.wrongText(8, "int main(int n) { int a[9] = `\"\"; }");
        Check.wrongText(8, "int a[`0] = { 1, 2 };" + MAIN);
        Check.value("char a[4] = \"abc\", b[2] = { 1, 2 }, c[4096]; int main(int n) { return a[2] + a[3] + b[1] + len(c); }", 0, 4197);
    }

    private static void leaps() {
        Check.wrongText(9, "int main(int n) { `break; }");
        Check.wrongText(9, "int main(int n) { `continue; }");
        Check.wrongText(9, "int main(int n) { if (n) { `break; } }");
        Check.wrongText(9, "int main(int n) { switch (n) { case 1: `continue; } }");
        Check.wrongText(9, "int main(int n) { while (n) break; `break; }");
        Check.wrongText(9, "int main(int n) { do break; while (n); `break; }");
        Check.wrongText(9, "int main(int n) { for (;;) continue; `continue; }");
        Check.wrongText(9, "int main(int n) { switch (n) { case 1: break; } `break; }");
        Check.wrongText(9, "int f() { while (1) { break; continue; } } int main(int n) { `break; }");
        Check.value("int main(int n) { while (1) { switch (n) { case 1: n = 5; continue; default: break; } break; } return n; }", 1, 5);
    }

    private static void cases() {
        Check.wrongText(10, "int main(int n) { switch (n) { case 1: case 2: `case 1: } }");
        Check.wrongText(10, "int main(int n) { switch (n) { case -1: `case 4294967295: } }");
        Check.wrongText(10, "int main(int n) { switch (n) { default: case 1: `default: } }");
        Check.wrongText(10, "int main(int n) { switch (n) { case 'a': switch (n) { case 'a': } `case 97: } }");
        Check.wrongText(2, "int main(int n) { switch (n) { case `x: case x: } }");
        Check.value("int main(int n) { switch (n) { case 1: switch (n) { case 1: default: n = 4; } default: case 2: } return n; }", 1, 4);
    }

    private static void returns() {
        Check.wrongText(11, "void v() { `return 1; }" + MAIN);
        Check.wrongText(11, "void v() { `return put(1); }" + MAIN);
        Check.wrongText(11, "int main(int n) { `return; }");
        Check.wrongText(11, "char c() { if (1) `return; }" + MAIN);
        Check.wrongText(11, "int a[1]; void v() { `return a; }" + MAIN);
        Check.value("void v() { return; } int f() { } char c() { return 300; } int main(int n) { v(); return f() + c(); }", 0, 44);
    }

    private static void wholeTexts() {
        Check.wrongText(12, "int x; // main");
        Check.wrongText(12, "void main(int n) { }");
        Check.wrongText(12, "char main(int n) { }");
        Check.wrongText(12, "int main(char n) { }");
        Check.wrongText(12, "int main(int n[]) { }");
        Check.wrongText(12, "int main() { }");
        Check.wrongText(12, "int main(int n, int m) { }  ");
        // 4 + 4096 + 4091 + 1 is the most a frame may have
        Check.value("int f() { int a[4096], b[4091]; return 1; } int main(int n) { return 2; }", 0, 2);
        Check.wrongText(13, "int f() { int a[4096], b[4092]; return 1; } int main(int n) { return 2; }");
        Check.wrongText(13, "int f(int a[]) { char c[4096]; int x[4096], y[3066]; return 1; } int main(int n) { return 2; } ");
        Check.value("int f(int a[]) { char c[4093]; int x[4096], y[3065]; return 1; } int main(int n) { return 2; }", 0, 2);
        Check.wrongText(12, "int f() { int a[4096], b[4096]; } int x[4096], y[4096], z;");
        Check.wrongText(13, "int f() { int a[4096], b[4096]; } int x[4096], y[4096], z; int main(int n) { }");
        Check.value("int a[4096], b[4096]; int main(int n) { b[4095] = 2; return b[4095]; }", 0, 2);
        Check.wrongText(14, "int a[4096], b[4096]; char c; int main(int n) { }");
        Check.wrongText(14, "int a[4096], b[4095]; char c[5]; int main(int n) { }");
        Check.value("int a[4096], b[4095]; char c[4]; int main(int n) { c[3] = 258; return c[3] + a[4095] + b[4094]; }", 0, 2);
        StringBuilder functions = new StringBuilder();
        for (int i = 0; i < 199; i++) {
            functions.append("int ").append((char) ('a' + i % 26)).append((char) ('A' + i / 26)).append("(){}");
        }
        Check.value(functions + "int main(int n){return 3;}", 0, 3);
        Check.wrongText(14, functions + "int z(){}int main(int n){return 3;}");
        Check.wrongText(12, functions + "int z(){}int y(){}");
    }

    private static void theFirst() {
        // the first by its token, not by when it is seen
        Check.wrongText(3, "int a[1]; int main(int n) { return `a + x; }");
        Check.wrongText(3, "int a[1]; int main(int n) { return `(a) + x; }");
        Check.wrongText(2, "int main(int n) { return `x + (1 = 2); }");
        Check.wrongText(6, "int main(int n) { `1 = x; }");
        Check.wrongText(7, "int v; int a[`1 + v + (1 = 2)];" + MAIN);
        Check.wrongText(4, "int main(int n) { `put(x, x); }");
        Check.wrongText(1, "int `f; int main(int n) { return x; } int f() { }");
        Check.wrongText(11, "void v() { `return x; }" + MAIN);
        Check.wrongText(10, "int main(int n) { switch (n) { case 1: `case 1: x; } }");
        // of two at one token the one with the lesser number
        Check.wrongText(2, "int a[`x + 1 / 0];" + MAIN);
        Check.wrongText(4, "int main(int n) { return `put(); }");
        Check.wrongText(5, "int a = `put(1);" + MAIN);
        Check.wrongText(3, "int b[1]; int a = `b;" + MAIN);
        // that a text is none counts before all that is wrong
        Check.none("int main(int n) { return x; } `}");
        // nothing of a text is known in the next one
        HomeSystem system = new HomeSystem();
        Check.due("none", Check.text(system, 0, "enum { e }; int x; int f(int y) { for (;;) switch (y) { case 1: while (y) {"), HomeSystem.NONE);
        Check.right(system, 1, "int x = 4, e = 5; int f() { return 1; } int main(int n) { switch (n) { case 1: x++; } return x + e + f(); }");
        Check.due("run", system.run(1, 1, 9, 99), HomeSystem.DONE);
        Check.due("value", system.value(0), 11);
        Check.due("none", Check.text(system, 0, "int x; int f(int y) { for (;;) while (y) {"), HomeSystem.NONE);
        Check.due("no loop", Check.text(system, 0, "int f() { break; } int main(int n) { }"), 9);
        Check.due("no function", Check.text(system, 0, "int main(int n) { return f(1); }"), 2);
        Check.due("no variable", Check.text(system, 0, "int main(int n) { return x; }"), 2);
    }
}
