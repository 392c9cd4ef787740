/** Promises 8 and 9: the meters WORK and STACK, and with them HEIGHT and FRAME. */
public final class FrameTest {
    public static void main(String[] args) {
        variables();
        heights();
        calls();
        stackIsGivenBack();
        work();
        Check.end("FrameTest");
    }

    /** A text whose main's frame has so many words. */
    private static void frame(String text, int want) {
        Check.outcome(text, 0, 1, want - 1, HomeSystem.DEEP);
        Check.outcome(text, 0, 1, want, HomeSystem.DONE);
    }

    /** An expression of so much height, that main does not come to. */
    private static void height(String expression, int want) {
        frame("int a[4]; char c[4]; int f(int x, int y) { return x; } int g(int x[], int y, char z[]) { return y; } void v() { } "
                + "int k() { return 1; } int main(int n) { if (0) return " + expression + "; }", 5 + want);
    }

    private static void variables() {
        frame("int main(int n) { }", 5);
        frame("int main(int n) { int x, y; char z; }", 8);
        frame("int main(int n) { int x[7]; }", 12);
        frame("int main(int n) { char x[7]; }", 7);
        frame("int main(int n) { char x[8]; }", 7);
        frame("int main(int n) { char x[9]; }", 8);
        frame("int main(int n) { { int x; } { int x; { int x; } } for (int i;0;) int j; }", 11);
        frame("int main(int n) { switch (0) { case 1: int x[3]; } }", 9);
        frame("int x[100]; enum { e }; int main(int n) { ; }", 5);
        frame("int main(int n) { char s[8] = \"abc\"; int t[3] = { 1 + (2 + (3 + 4)) }; }", 10);
        frame("int main(int n) { int t[1 + (2 + (3 + 4))]; }", 15);
        frame("int main(int n) { int x = 1; }", 7);
        frame("int main(int n) { int x = 1 + (1 + 1); }", 9);
    }

    private static void heights() {
        height("n", 1);
        height("1 + 1", 2);
        height("1 + 1 + 1 - 1", 2);
        height("1 + (1 + (1 + 1))", 4);
        height("((1 + 1) + 1) + 1", 2);
        height("1 + 1 * 1", 3);
        height("1 * 1 + 1", 2);
        height("1 || 1 && 1 | 1 ^ 1 & 1 == 1 < 1 << 1 + 1 * 1", 11);
        height("- ! ~ + ++ n", 1);
        height("n++", 1);
        height("a[1 + 1]", 2);
        height("a[a[1 + 1]]++", 2);
        height("++a[1 + (1 + 1)]", 3);
        height("n ? 1 : 1", 1);
        height("n + 1 ? 1 : 1", 2);
        height("n ? 1 + (1 + 1) : 1", 3);
        height("n ? 1 : 1 + (1 + 1)", 3);
        height("n = 1", 1);
        height("n = 1 + 1", 2);
        height("n += n = 1 + 1", 2);
        height("a[1] = 1", 2);
        height("a[1] = 1 + 1", 3);
        height("a[1 + (1 + 1)] = 1", 3);
        height("a[1 + (1 + 1)] *= 1 + (1 + 1)", 4);
        height("(a[1]) = 1 + 1", 3);
        height("a[0] = a[1] = a[2] = 1", 4);
        height("k()", 1);
        height("f(1, 1)", 2);
        height("f(1 + (1 + 1), 1)", 3);
        height("f(1, 1 + (1 + 1))", 4);
        height("f(1, f(1, f(1, 1)))", 4);
        height("f(f(f(1, 1), 1), 1)", 2);
        height("g(a, 1, c)", 5);
        height("g(a, 1 + (1 + (1 + 1)), c)", 6);
        height("len(a)", 2);
        height("1 + len((a))", 3);
        height("recv(1 + 1)", 2);
        height("k() + k()", 2);
        // where they stand
        frame("int main(int n) { 1 + 1; }", 7);
        frame("int main(int n) { if (1 + 1) ; }", 7);
        frame("int main(int n) { while (1 - 1) ; }", 7);
        frame("int main(int n) { for (;1 - 1;) ; }", 7);
        frame("int main(int n) { for (1 + 1; 0;) ; }", 7);
        frame("int main(int n) { for (; 0; 1 + 1) ; }", 7);
        frame("int main(int n) { switch (1 + 1) { case 1 + 1 + (1 + (1 + 1)): } }", 7);
        frame("int main(int n) { if (0) put(1 + 1); }", 7);
        frame("int a[1]; int main(int n) { if (0) get(0, a); }", 8);
        frame("int main(int n) { return 1 + 1; }", 7);
    }

    private static void calls() {
        // main has 4 + 1 + 1, f 4 + 2 + 1
        String f = "int f(int a[]) { return 1; } int a[1]; int main(int n) { return f(a); }";
        Check.outcome(f, 0, 2, 6 + 1 + 7 - 1, HomeSystem.DEEP);
        Check.outcome(f, 0, 2, 6 + 1 + 7, HomeSystem.DONE);
        String deep = "int d(int n) { return n ? d(n - 1) : 7; } int main(int n) { return d(n); }";
        // d has 4 + 1 + 2
        Check.outcome(deep, 9, 50, 6 + 10 * 7 - 1, HomeSystem.DEEP);
        Check.outcome(deep, 9, 50, 6 + 10 * 7, HomeSystem.DONE);
        Check.outcome(deep, 9, 11, 6 + 10 * 7, HomeSystem.DONE);
        Check.outcome(deep, 9, 10, 6 + 10 * 7, HomeSystem.WORN);
        // work is taken first
        Check.outcome(deep, 9, 10, 6 + 9 * 7, HomeSystem.WORN);
        Check.outcome("int main(int n) { }", 0, 0, 0, HomeSystem.WORN);
        Check.outcome("int main(int n) { }", 0, 1, 0, HomeSystem.DEEP);
        // the arguments are known before
        HomeSystem system = new HomeSystem();
        Check.right(system, 0, "int f(int a) { return a; } int g() { put(5); return 1; } int main(int n) { return f(g()); }");
        Check.due("worn at f", system.run(0, 0, 3, 100), HomeSystem.WORN);
        Check.paper("worn at f", system, 0, 5);
        Check.due("zero before the call", system.run(0, 0, 4, 100), HomeSystem.DONE);
        Check.outcome("int f(int a) { return a; } int main(int n) { return f(1 / n); }", 0, 1, 100, HomeSystem.ZERO);
    }

    private static void stackIsGivenBack() {
        Check.outcome("int f(int a) { int x[20]; return a; } int main(int n) { for (int i = 0; i < 30; i++) f(i); return 1; }",
                0, 100, 40, HomeSystem.DONE);
        Check.value("int f(int a) { return a ? f(a - 1) + f(a - 1) : 1; } int main(int n) { return f(n); }", 4, 16);
    }

    /** Ends DONE with just so much work, WORN with 1 less. */
    private static void needs(String body, int want) {
        String text = "int f() { return 1; } int a[2]; int main(int n) { " + body + " }";
        Check.outcome(text, 3, want - 1, 300, HomeSystem.WORN);
        Check.outcome(text, 3, want, 300, HomeSystem.DONE);
    }

    private static void work() {
        needs("", 1);
        needs("f();", 2);
        needs("len(a); len(a);", 1);
        needs("put(1);", 2);
        needs("spawn(5, 1);", 2);
        needs("get(1, a); set(1, a);", 3);
        needs("while (n--) ;", 4);
        needs("while (n-- && f()) ;", 7);
        needs("do ; while (--n);", 4);
        needs("do { continue; } while (--n);", 4);
        needs("for (; n; n--) ;", 4);
        needs("for (;;) break;", 2);
        needs("for (int i = 0; i < 2; i++) for (int j = 0; j < 2; j++) ;", 7);
        needs("while (0) ;", 1);
        Check.outcome("int main(int n) { while (1) ; }", 0, 100, 100, HomeSystem.WORN);
        Check.outcome("int main(int n) { for (;;) ; }", 0, 100, 100, HomeSystem.WORN);
        Check.outcome("int main(int n) { end(3); }", 0, 1, 100, HomeSystem.WORN);
        Check.outcome("int main(int n) { end(3); }", 0, 2, 100, HomeSystem.ENDED);
        // before a handle of nobody is seen
        Check.outcome("int main(int n) { recv(7); }", 0, 1, 100, HomeSystem.WORN);
        Check.outcome("int main(int n) { recv(7); }", 0, 2, 100, HomeSystem.OUT);
    }
}
