/** Promises 4 and 5: what no text of the language begins with, and what may be OPEN and how deep. */
public final class GrammarTest {
    public static void main(String[] args) {
        texts();
        declarations();
        statements();
        expressions();
        open();
        openStatements();
        deep();
        chains();
        Check.end("GrammarTest");
    }

    private static void texts() {
        Check.none("`x");
        Check.none("int");
        Check.none("int main");
        Check.none("int main(int n) {");
        Check.none("int main(int n)`;");
        Check.none("int main(int n) { }`;");
        Check.none("`return 1;");
        Check.none("void x`;");
        Check.none("void x `y; int main(int n) { }");
        Check.none("void `(");
        Check.none("void x`[3];");
        Check.none("int f(void `n) { }");
        Check.none("int f(void`, int n) { }");
        Check.none("int f(`x) { }");
        Check.none("int f(int a,`) { }");
        Check.none("int f(int a[`3]) { }");
        Check.none("int f(int a[]`[]) { }");
        Check.none("int f(int `) { }");
        Check.none("int x, y`(int a) { }");
        Check.none("int x`}");
        Check.wrongText(12, "");
        Check.wrongText(12, "int f() { }");
        Check.value("int f(){return 2;}int main(int n){return f();}", 0, 2);
    }

    private static void declarations() {
        Check.value("enum { a }; enum { b = 4, c, d = c * 2 }; int main(int n) { return a + b + c * 10 + d * 100; }", 0, 1054);
        Check.none("enum `a { b };");
        Check.none("enum { `}; int main(int n) { }");
        Check.none("enum { a, `}; int main(int n) { }");
        Check.none("enum { a } `int main(int n) { }");
        Check.none("enum { a = b `= 1 }; int main(int n) { }");
        Check.none("int main(int n) { `enum { a }; }");
        Check.none("int a[`]; int main(int n) { }");
        Check.none("int a[2 `= 3]; int main(int n) { }");
        Check.none("int a[2] = `1; int main(int n) { }");
        Check.none("int a[2] = { `}; int main(int n) { }");
        Check.none("int a[2] = { 1, `}; int main(int n) { }");
        Check.none("int a[2] = { n `= 1 }; int main(int n) { }");
        Check.none("int a[2]`[2]; int main(int n) { }");
        Check.none("int a = `{ 1 }; int main(int n) { }");
        Check.none("char a = `\"a\"; int main(int n) { }");
        Check.none("int `*a; int main(int n) { }");
        Check.none("int a `b; int main(int n) { }");
        Check.none("int main(int n) { `void x; }");
        Check.none("int main(int n) { int x`(3); }");
    }

    private static void statements() {
        Check.none("int main(int n) { `else ; }");
        Check.none("int main(int n) { if `n ; }");
        Check.none("int main(int n) { if (`) ; }");
        Check.none("int main(int n) { if (n) `} ");
        Check.none("int main(int n) { if (n) ; else ; `else ; }");
        Check.none("int main(int n) { do n = 1; `} ");
        Check.none("int main(int n) { do ; while (n) `} ");
        Check.none("int main(int n) { for (;`) ; }");
        Check.none("int main(int n) { for (n `) ; }");
        Check.none("int main(int n) { for (;;n`;) ; }");
        Check.none("int main(int n) { for (`if ;;) ; }");
        Check.none("int main(int n) { `case 1: ; }");
        Check.none("int main(int n) { switch (n) `n; }");
        Check.none("int main(int n) { switch (n) { `n = 1; case 1: } }");
        Check.none("int main(int n) { switch (n) { `; case 1: } }");
        Check.none("int main(int n) { switch (n) { case 1 `; } }");
        Check.none("int main(int n) { switch (n) { case n `= 1: } }");
        Check.none("int main(int n) { switch (n) { case 1: if (n) `case 2: ; } }");
        Check.none("int main(int n) { switch (n) { case 1: { `default: ; } } }");
        Check.none("int main(int n) { switch (n) { default `1: } }");
        Check.none("int main(int n) { break `1; }");
        Check.none("int main(int n) { continue `}");
        Check.none("int main(int n) { return n `}");
        Check.none("int main(int n) { return n `, n; }");
        Check.value("int main(int n) { ; {} {;} if (n) int x; else char y[2]; switch (n) { } switch (n) { default: } return n; }", 3, 3);
    }

    private static void expressions() {
        Check.none("int main(int n) { n + n `= 1; }");
        Check.none("int main(int n) { n ? n : n `= 1; }");
        Check.none("int main(int n) { n ? n `; }");
        Check.none("int main(int n) { n ? `: n; }");
        Check.none("int main(int n) { n++ `++; }");
        Check.none("int main(int n) { n[1]`[2]; }");
        Check.none("int main(int n) { f(1)`(2); }");
        Check.none("int main(int n) { f(1,`); }");
        Check.none("int main(int n) { f(`, 1); }");
        Check.none("int main(int n) { (n`, n); }");
        Check.none("int main(int n) { n[`]; }");
        Check.none("int main(int n) { (`); }");
        Check.none("int main(int n) { 3`(1); }");
        Check.none("int main(int n) { (n)`(1); }");
        Check.none("int main(int n) { (n)`[1]; }");
        Check.none("int main(int n) { n * `* n; }");
        Check.none("int main(int n) { (`int) n; }");
        Check.none("int main(int n) { n = `; }");
        Check.expression("n ? n = 4 : 5", 1, 4);
        Check.expression("(n) = 5", 1, 5);
        Check.expression("n = n += 5", 1, 6);
    }

    /** With the body's { sixty may be open. */
    private static void open() {
        Check.expression(Check.times("(", 59) + "n" + Check.times(")", 59), 7, 7);
        Check.none("int main(int n) { return " + Check.times("(", 59) + "`(n" + Check.times(")", 60) + "; }");
        Check.expression(Check.times("- ", 59) + "n", 7, -7);
        Check.none("int main(int n) { return " + Check.times("- ", 59) + "`-n; }");
        Check.expression(Check.times("+ ", 59) + "n", 7, 7);
        Check.none("int main(int n) { return " + Check.times("+ ", 59) + "`+n; }");
        Check.none("int main(int n) { return " + Check.times("~!", 29) + "~`++n; }");
        Check.value("int a[1]; int main(int n) { return " + Check.times("a[", 59) + "n" + Check.times("]", 59) + "; }", 0, 0);
        Check.none("int a[1]; int main(int n) { return " + Check.times("a[", 59) + "a`[n" + Check.times("]", 60) + "; }");
        Check.value("int f(int x) { return x; } int main(int n) { return " + Check.times("f(", 59) + "n" + Check.times(")", 59) + "; }", 8, 8);
        Check.none("int f(int x) { return x; } int main(int n) { return " + Check.times("f(", 59) + "f`(n" + Check.times(")", 60) + "; }");
        // brackets of sizes, { k }, parameters and enum
        Check.value("int a[" + Check.times("(", 59) + "2" + Check.times(")", 59) + "]; int main(int n) { return len(a); }", 0, 2);
        Check.none("int a[" + Check.times("(", 59) + "`(2" + Check.times(")", 60) + "]; int main(int n) { }");
        Check.value("int a[2] = {" + Check.times("(", 59) + "2" + Check.times(")", 59) + "}; int main(int n) { return a[0]; }", 0, 2);
        Check.none("int a[2] = {" + Check.times("(", 59) + "`(2" + Check.times(")", 60) + "}; int main(int n) { }");
        Check.value("enum { a = " + Check.times("(", 59) + "2" + Check.times(")", 59) + "}; int main(int n) { return a; }", 0, 2);
        Check.none("enum { a = " + Check.times("(", 59) + "`(2" + Check.times(")", 60) + "}; int main(int n) { }");
        // what has closed again does not count
        Check.expression(Check.times("(n) + ", 100) + "0", 1, 100);
        Check.expression(Check.times("-n * ", 100) + "1", 1, 1);
        // = of a variable's declaration opens nothing
        Check.value("int main(int n) { int x = " + Check.times("- ", 59) + "n; return x; }", 7, -7);
        Check.none("int main(int n) { int x; x = " + Check.times("- ", 58) + "`-n; return x; }");
    }

    private static void openStatements() {
        Check.value("int main(int n) { " + Check.times("{", 59) + "return 4;" + Check.times("}", 60), 0, 4);
        Check.none("int main(int n) { " + Check.times("{", 59) + "`{ return 4;" + Check.times("}", 61));
        // if needs one more for its (
        Check.value("int main(int n) { " + Check.times("if (1) ", 58) + "return 4; }", 0, 4);
        Check.none("int main(int n) { " + Check.times("if (1) ", 58) + "if `(1) return 4; }");
        Check.value("int main(int n) { " + Check.times("if (0) ; else ", 58) + "return 4; }", 0, 4);
        Check.none("int main(int n) { " + Check.times("if (0) ; else ", 58) + "if `(1) ; }");
        Check.value("int main(int n) { " + Check.times("while (1) ", 58) + "return 4; }", 0, 4);
        Check.none("int main(int n) { " + Check.times("while (1) ", 58) + "while `(1) ; }");
        Check.value("int main(int n) { " + Check.times("for (;;) ", 58) + "return 4; }", 0, 4);
        Check.none("int main(int n) { " + Check.times("for (;;) ", 58) + "for `(;;) ; }");
        Check.value("int main(int n) { " + Check.times("do ", 58) + "return 4;" + Check.times(" while (0);", 58) + " }", 0, 4);
        Check.none("int main(int n) { " + Check.times("do ", 59) + "; while `(0); }");
        Check.none("int main(int n) { " + Check.times("do ", 59) + "`do ; while (0); }");
        Check.value("int main(int n) { " + Check.times("switch (1) { default: ", 29) + "return 4;" + Check.times("}", 30), 0, 4);
        Check.none("int main(int n) { " + Check.times("switch (1) { default: ", 29) + "switch `(1) { } " + Check.times("}", 30));
        // a statement that has ended is not open
        Check.value("int main(int n) { " + Check.times("if (n) ; ", 100) + "return 4; }", 0, 4);
        String[] ended = {"while (0) ;", "for (;0;) ;", "switch (n) { }", "if (n) ; else ;", "{ }", "n++;", "n = n ? n : n;", "int x[1];"};
        for (int i = 0; i < ended.length; i++) {
            Check.value("int main(int n) { " + Check.times("{" + ended[i] + "} ", 80) + "return 4; }", 0, 4);
        }
        Check.value("int main(int n) { " + Check.times("do ; while (0); ", 80) + "return 4; }", 0, 4);
    }

    /** Between two there is place for fifty-eight operators that wait for their right one. */
    private static void deep() {
        String main = "int main(int n) { return ";
        Check.expression(Check.times("n - (", 29) + "n" + Check.times(")", 29), 3, 0);
        // OPEN is 1 + 2 for each; at the next operator it would be 59 with a depth of 1
        Check.none(main + Check.times("n - (", 29) + "n `- n" + Check.times(")", 29) + "; }");
        Check.none(main + Check.times("n - (", 28) + "n - (n `- n)" + Check.times(")", 28) + "; }");
        Check.expression(Check.times("n = ", 58) + "n", 3, 3);
        Check.none(main + Check.times("n = ", 58) + "n `= n; }");
        Check.expression(Check.times("n ? 1 : ", 58) + "n", 3, 1);
        Check.none(main + Check.times("n ? 1 : ", 58) + "n `? 1 : n; }");
        Check.expression(Check.times("- ", 57) + "n++", 3, -3);
        Check.expression(Check.times("- ", 58) + "n", 3, 3);
        Check.none(main + Check.times("- ", 58) + "n`++; }");
        Check.none(main + Check.times("- ", 58) + "n`--; }");
        // the left one's depth counts: x is depth deep, and one { is open
        Check.expression(Check.times("- ", 57) + "n + 1", 3, -2);
        Check.none(main + Check.times("- ", 58) + "n `+ 1; }");
        Check.none(main + Check.times("- ", 58) + "n `= 1; }");
        Check.none(main + Check.times("- ", 58) + "n `? 1 : 1; }");
        Check.expression(Check.times("+ ", 58) + "n + 1", 3, 4);
        Check.expression("(" + Check.times("- ", 57) + "n) + 1", 3, -2);
        Check.expression("(" + Check.times("- ", 57) + "n)", 3, -3);
        Check.none(main + "(" + Check.times("- ", 58) + "n) `+ 1; }");
        // what is assigned is a part of it
        Check.expression("(n = " + Check.times("- ", 56) + "n) + 1", 3, 4);
        Check.none(main + "(n = " + Check.times("- ", 57) + "n) `+ 1; }");
        Check.expression("(n ? " + Check.times("- ", 56) + "n : 1) + 1", 3, 4);
        Check.none(main + "(n ? " + Check.times("- ", 57) + "n : 1) `+ 1; }");
        Check.none(main + "(n ? 1 : " + Check.times("- ", 57) + "n) `+ 1; }");
        Check.none(main + "((" + Check.times("- ", 57) + "n) `? 1 : n) + 1; }");
        // a call is deeper than its arguments by one, one without any has a depth of 1
        String f = "int f(int x) { return x; } int g() { return 1; } ";
        Check.value(f + main + Check.times("f(", 57) + "g()" + Check.times(")", 57) + " + 1; }", 3, 2);
        Check.none(f + main + Check.times("f(", 58) + "g()" + Check.times(")", 58) + " `+ 1; }");
        Check.value(f + "int a[1]; " + main + Check.times("a[", 57) + "g() - 1" + Check.times("]", 57) + "; }", 3, 0);
        Check.none(f + "int a[1]; " + main + Check.times("a[", 58) + "0" + Check.times("]", 58) + "`++; }");
    }

    /** Operators of one sort from the left are one expression, however many there are. */
    private static void chains() {
        String main = "int main(int n) { return ";
        Check.expression(Check.times("n + ", 200) + "1", 1, 201);
        Check.expression(Check.times("(", 50) + "n" + Check.times(" - 1)", 50), 60, 10);
        Check.expression(Check.times("(", 57) + "n" + Check.times(" - 1)", 57) + " + 1 - 1", 60, 3);
        Check.expression(Check.times("+(", 28) + "n" + Check.times(" - 1)", 28) + " + 1 - 1", 60, 32);
        // with - before the brackets each is deeper by two
        Check.expression(Check.times("-(", 28) + "n" + Check.times(" - 1)", 28) + " + 1", 60, 61);
        Check.none(main + Check.times("-(", 29) + "n `- 1" + Check.times(")", 29) + "; }");
        // two sorts in turn make it deeper: with the { before a depth of 59 there is no place for another
        Check.expression(Check.times("((", 28) + "n" + Check.times(" * 1) - 1)", 28) + " * 1 - 1", 60, 31);
        Check.none(main + Check.times("((", 28) + "n" + Check.times(" * 1) - 1)", 28) + " * 1 - 1 `<< 1; }");
        // the right one is no part of it
        Check.expression(Check.times("1 + (", 29) + "n" + Check.times(")", 29), 3, 32);
    }
}
