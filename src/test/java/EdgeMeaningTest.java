/** The edges of MEANING: for each of the fourteen ways to be wrong what is just so, and what just is not. */
public final class EdgeMeaningTest {
    private static final String MAIN = " int main(int n) { }";
    private static final String[] GIVEN = {"len", "put", "send", "recv", "more", "spawn", "wait", "get", "set", "end"};
    private static final String THINGS = "int a[2]; char c[2]; void v() { } int f(int x) { return x; } int i(int x[]) { return 1; } int h(char x[]) { return 1; } ";
    /** Where a number is wanted, as a statement of a function with an int n. */
    private static final String[] WANTED = {"return #;", "if (#) ;", "while (#) ;", "do ; while (#);", "for (;#;) ;", "switch (#) { }", "int x = #;",
        "char x = #;", "-#;", "+#;", "!#;", "~#;", "n = #;", "n += #;", "a[0] = #;", "a[#];", "a[#] = 1;", "f(#);", "put(#);", "send(#, 1);",
        "send(1, #);", "recv(#);", "more(#);", "spawn(#, 1);", "spawn(1, #);", "wait(#);", "get(#, a);", "set(#, a);", "end(#);", "# ? 1 : 2;",
        "n ? # : 2;", "n ? 1 : #;", "{ { (1 + #); } }"};
    private static final String[] BETWEEN = {"||", "&&", "|", "^", "&", "==", "!=", "<", ">", "<=", ">=", "<<", ">>", "+", "-", "*", "/", "%"};
    /** Where a k stands; # is its first token. */
    private static final String[] CONSTANTS = {"enum { e = # };" + MAIN, "int q[#];" + MAIN, "char q[#];" + MAIN, "int q[9] = { # };" + MAIN,
        "char q[9] = { 1, #, 2 };" + MAIN, "int q = #;" + MAIN, "char p, q = #, r;" + MAIN, "int main(int n) { switch (n) { case 77: case #: } }",
        "int main(int n) { int q[#]; }", "int main(int n) { char q[9] = { #, 3 }; }", "int main(int n) { for (int q[#];;) ; }"};

    public static void main(String[] args) {
        numbersOfEnum();
        twoInTheText();
        namesThatAreThereAlready();
        twoInAFunction();
        knownToTheEndOfTheScope();
        knownFromTheDeclarationOn();
        functionsAsNames();
        arraysForNumbers();
        numbersForArrays();
        indexOfNoArray();
        countsOfArguments();
        voidForNumbers();
        assignedTo();
        constantsOfWhat();
        divisionsInConstants();
        unknownInConstants();
        sizes();
        listsAndStrings();
        leaps();
        cases();
        returns();
        mains();
        frames();
        functionsAndVariables();
        theFirstAndTheLeast();
        theNextText();
        Check.end("EdgeMeaningTest");
    }

    /** A text with # for something, which is right. */
    private static void fine(String text) {
        Check.told(text, 0, 0);
    }

    /** "A name of enum is the number k; without one, 0 if it is the first, otherwise one more than the one before it (wrapping)." */
    private static void numbersOfEnum() {
        String main = " int main(int n) { put(a); put(b); put(c); put(d); }";
        String[] texts = {"enum { a, b, c, d };", "enum { a, b }; enum { c, d };", "enum { a }; enum { b }; enum { c }; enum { d };",
            "enum { a = 7, b }; enum { c, d };", "enum { a, b = 9, c, d };", "enum { a = -1, b, c = -7, d };", "enum { a = 2147483647, b, c = -1, d };",
            "enum { a = 3, b = a * a, c, d = c - b };", "enum { a = 5 }; int x; enum { b, c }; int f() { } enum { d };", "enum { a = 4 }; enum { b = a, c }; enum { d = c + 1 };",
            "enum { a = 8, b = 8, c = 0, d };", "enum { a = 0x80000000, b, c = 4294967295, d };"};
        int[][] numbers = {{0, 1, 2, 3}, {0, 1, 0, 1}, {0, 0, 0, 0}, {7, 8, 0, 1}, {0, 9, 10, 11}, {-1, 0, -7, -6},
            {Integer.MAX_VALUE, Integer.MIN_VALUE, -1, 0}, {3, 9, 10, 1}, {5, 0, 1, 0}, {4, 4, 5, 6}, {8, 8, 0, 1}, {Integer.MIN_VALUE, Integer.MIN_VALUE + 1, -1, 0}};
        for (int i = 0; i < texts.length; i++) {
            HomeSystem system = new HomeSystem();
            Check.right(system, 0, texts[i] + main);
            Check.due("run", system.run(0, 0, 5, 99), HomeSystem.DONE);
            Check.paper(texts[i], system, 0, numbers[i]);
        }
    }

    /** "1 a name that is known in the same scope already": all pairs of what a text declares. */
    private static void twoInTheText() {
        String[] declared = {"int #;", "char #[3];", "enum { # };", "int # = 3;"};
        for (int i = 0; i < declared.length; i++) {
            for (int k = 0; k < declared.length; k++) {
                Check.wrongText(1, declared[i].replace("#", "x") + declared[k].replace("#", "`x") + MAIN);
                fine(declared[i].replace("#", "x") + declared[k].replace("#", "y") + MAIN);
            }
            // "that is also a function's, wherever that stands"
            Check.wrongText(1, declared[i].replace("#", "`x") + "int x() { }" + MAIN);
            Check.wrongText(1, "int x() { }" + declared[i].replace("#", "`x") + MAIN);
            Check.wrongText(1, declared[i].replace("#", "`main") + MAIN);
            Check.wrongText(1, MAIN + declared[i].replace("#", "`main"));
            fine(MAIN + declared[i].replace("#", "x"));
        }
        Check.wrongText(1, "int x() { } int `x() { }" + MAIN);
        Check.wrongText(1, "int x() { } void `x(int y) { }" + MAIN);
        Check.wrongText(1, MAIN + " int `main(int n) { }");
        Check.wrongText(1, "enum { x, y, `x };" + MAIN);
        Check.wrongText(1, "enum { x }; enum { `x };" + MAIN);
        Check.wrongText(1, "int x, y, `x;" + MAIN);
    }

    /** "or one of those that are there already"; within functions they may be hidden. */
    private static void namesThatAreThereAlready() {
        for (int i = 0; i < GIVEN.length; i++) {
            String name = GIVEN[i];
            Check.wrongText(1, "int `" + name + ";" + MAIN);
            Check.wrongText(1, "char `" + name + "[2];" + MAIN);
            Check.wrongText(1, "enum { `" + name + " };" + MAIN);
            Check.wrongText(1, "int `" + name + "() { }" + MAIN);
            Check.wrongText(1, "void `" + name + "(int x) { }" + MAIN);
            fine("int f(int " + name + ") { return " + name + "; }" + MAIN);
            fine("int f(char " + name + "[]) { return " + name + "[0]; }" + MAIN);
            fine("int main(int n) { int " + name + " = n; return " + name + "; }");
            fine("int main(int n) { for (int " + name + "[2];;) " + name + "[0] = 1; }");
            fine("int " + name + "x; int " + name + "y() { }" + MAIN);
            fine("int " + name.toUpperCase() + ";" + MAIN);
        }
    }

    /** "parameters and the outermost block of the function are one scope". */
    private static void twoInAFunction() {
        Check.wrongText(1, "int f(int x, int `x) { }" + MAIN);
        Check.wrongText(1, "int f(int x, int y, char `x[]) { }" + MAIN);
        Check.wrongText(1, "int f(int x) { int `x; }" + MAIN);
        Check.wrongText(1, "int f(int x[]) { char `x; }" + MAIN);
        Check.wrongText(1, "int f(int x) { if (x) int `x; }" + MAIN);
        Check.wrongText(1, "int f(int x) { while (x) char `x[1]; }" + MAIN);
        fine("int f(int x) { { int x; } }" + MAIN);
        fine("int f(int x) { if (x) { int x; } else { int x; } }" + MAIN);
        fine("int f(int x) { for (int x = 0;;) ; }" + MAIN);
        fine("int f(int x) { switch (x) { case 1: int x; } }" + MAIN);
        fine("int f(int x) { do { int x; } while (x); }" + MAIN);
        fine("int f(int f) { }" + MAIN);
        fine("int f() { int f; } int g(int f) { int g; }" + MAIN);
        fine("int f(int x) { } int g(int x) { } int x;" + MAIN);
        Check.wrongText(1, "int main(int n) { { int x; { int y; } int `x; } }");
        Check.wrongText(1, "int main(int n) { { int x, y, `x; } }");
        fine("int main(int n) { { int x; } { int x; { int x; } } }");
        Check.wrongText(1, "int main(int n) { for (int x, `x;;) ; }");
        Check.wrongText(1, "int main(int n) { for (int x;;) int `x; }");
        fine("int main(int n) { for (int x;;) { int x; } }");
        fine("int main(int n) { for (int x;;) for (int x;;) ; }");
        fine("int main(int n) { for (int x;;) ; for (int x;;) ; int x; }");
        Check.wrongText(1, "int main(int n) { switch (n) { case 1: int x; default: int `x; } }");
        fine("int main(int n) { switch (n) { case 1: int x; default: { int x; } } int x; }");
        fine("int main(int n) { switch (n) { case 1: switch (n) { case 1: int x; } int x; } }");
        Check.wrongText(1, "int main(int n) { if (n) int x; int `x; }");
        Check.wrongText(1, "int main(int n) { while (n) int x; int `x; }");
    }

    private static void knownToTheEndOfTheScope() {
        Check.wrongText(2, "int main(int n) { { int x; } `x; }");
        Check.wrongText(2, "int main(int n) { if (n) { int x; } else `x; }");
        Check.wrongText(2, "int main(int n) { while (n) { int x; } `x; }");
        Check.wrongText(2, "int main(int n) { do { int x; } while (`x); }");
        Check.wrongText(2, "int main(int n) { for (int x;;) ; `x; }");
        Check.wrongText(2, "int main(int n) { for (;;) { int x; } `x; }");
        Check.wrongText(2, "int main(int n) { switch (n) { case 1: int x; } `x; }");
        Check.wrongText(2, "int f(int x) { }  int main(int n) { `x; }");
        Check.wrongText(2, "int f() { int x; }  int main(int n) { `x; }");
        fine("int main(int n) { if (n) int x; x; }");
        fine("int main(int n) { if (n) int x; else x = 1; }");
        fine("int main(int n) { do int x; while (x); x; }");
        fine("int main(int n) { for (;;) { int x; x; } }");
        fine("int main(int n) { switch (n) { case 1: int x; break; case 2: x = 3; } }");
        fine("int main(int n) { for (int x;x;x) x; }");
        // the innermost counts, and the outer one again behind its end
        Check.value("int x = 1; int main(int n) { int s = x; int x = 2; s = s * 10 + x; { int x = 3; s = s * 10 + x; } s = s * 10 + x; return s; }", 0, 1232);
        Check.value("int x = 1; int main(int n) { int s = x; for (int x = 2; x < 3; x++) { s = s * 10 + x; int x = 7; s = s * 10 + x; } return s * 10 + x; }", 0, 1271);
        Check.value("enum { x = 1 }; int main(int n) { int s = x; switch (n) { case x - 1: int x = 4; s = s * 10 + x; } return s * 10 + x; }", 0, 141);
    }

    /** "known from its declaration on (a v's and one of enum behind its own brackets and = and all of that)". */
    private static void knownFromTheDeclarationOn() {
        Check.wrongText(2, "int main(int n) { `x; int x; }");
        Check.wrongText(2, "int f() { return `x; } int x;" + MAIN);
        Check.wrongText(2, "int x = `x;" + MAIN);
        Check.wrongText(2, "int main(int n) { int x = `x; }");
        Check.wrongText(2, "int main(int n) { int x = 1 + (`x = 2); }");
        Check.wrongText(2, "int x[`x];" + MAIN);
        Check.wrongText(2, "int x[2] = { 1, `x };" + MAIN);
        Check.wrongText(2, "int main(int n) { int x[`x]; }");
        Check.wrongText(2, "enum { x = `x };" + MAIN);
        Check.wrongText(2, "enum { x = `y, y };" + MAIN);
        Check.wrongText(2, "int main(int n) { int y = `x, x; }");
        fine("int main(int n) { int x, y = x; }");
        fine("int main(int n) { int x[2], y = len(x); }");
        fine("enum { x, y = x };" + MAIN);
        fine("enum { x = 2 }; int y[x] = { x }; char z = x;" + MAIN);
        // the outer one is known until then
        Check.value("int x = 3; int main(int n) { int x = x + 1; return x; }", 0, 4);
        Check.value("enum { x = 3 }; int main(int n) { int x[x] = { x, x - 1 }; return len(x) * 100 + x[0] * 10 + x[1]; }", 0, 332);
        // functions are known in the whole text
        Check.value("int main(int n) { return z(n); } int z(int n) { return n + y(); } int y() { return 2; }", 3, 5);
    }

    /** "or (not before a bracket or parenthesis) is a function's, or called and none". */
    private static void functionsAsNames() {
        for (int i = 0; i < GIVEN.length; i++) {
            Check.wrongText(2, "int main(int n) { `" + GIVEN[i] + "; }");
            Check.wrongText(2, "int main(int n) { (`" + GIVEN[i] + "); }");
            Check.wrongText(2, "int main(int n) { `" + GIVEN[i] + " = 1; }");
            Check.wrongText(2, "int main(int n) { ++`" + GIVEN[i] + "; }");
            Check.wrongText(3, "int main(int n) { `" + GIVEN[i] + "[0]; }");
            Check.wrongText(2, "int main(int n) { int " + GIVEN[i] + "; `" + GIVEN[i] + "(1); }");
        }
        Check.wrongText(2, "int main(int n) { put(`main); }");
        Check.wrongText(3, "int main(int n) { put(`main[0]); }");
        Check.wrongText(2, "int main(int n) { len(`main); }");
        Check.wrongText(2, "int f() { } int main(int n) { return 1 + `f; }");
        Check.wrongText(2, "int main(int n) { return 1 + `f; } int f() { }");
        Check.wrongText(2, "int main(int n) { `n(); }");
        Check.wrongText(2, "int x; int main(int n) { `x(); }");
        Check.wrongText(2, "int x[2]; int main(int n) { `x(1); }");
        Check.wrongText(2, "enum { x }; int main(int n) { `x(1); }");
        Check.wrongText(2, "int main(int n) { `x(); }");
        Check.wrongText(2, "int f() { } int main(int n) { int f = 1; `f(); }");
        fine("int f() { } int main(int n) { { int f = 1; f++; } f(); }");
        fine("int f() { } int main(int n) { f(); int f = 1; }");
    }

    /** "3 an array where a number is wanted". */
    private static void arraysForNumbers() {
        for (int i = 0; i < WANTED.length; i++) {
            String main = THINGS + "int main(int n) { " + WANTED[i] + " }";
            Check.wrongText(3, main.replace("#", "`a"));
            Check.wrongText(3, main.replace("#", "`c"));
            Check.wrongText(3, main.replace("#", "`(a)"));
            fine(main.replace("#", "a[0]"));
            fine(main.replace("#", "len(a)"));
        }
        for (int i = 0; i < BETWEEN.length; i++) {
            Check.wrongText(3, THINGS + "int main(int n) { `a " + BETWEEN[i] + " n; }");
            Check.wrongText(3, THINGS + "int main(int n) { n " + BETWEEN[i] + " `a; }");
            Check.wrongText(3, THINGS + "int main(int n) { n " + BETWEEN[i] + " n " + BETWEEN[i] + " `(c); }");
        }
        // "(or, as in e ; and the first and the last e of for, a number or void)"
        Check.wrongText(3, THINGS + "int main(int n) { `a; }");
        Check.wrongText(3, THINGS + "int main(int n) { `((c)); }");
        Check.wrongText(3, THINGS + "int main(int n) { for (`a;;) ; }");
        Check.wrongText(3, THINGS + "int main(int n) { for (;;`a) ; }");
        fine(THINGS + "int main(int n) { v(); (v()); for (v();;v()) ; for (n;;n) ; n; }");
        // "where one is assigned to, or ++ or --"
        String[] changed = {"`a = 1;", "`a += 1;", "`(a) = 1;", "`a++;", "`a--;", "++`a;", "--`a;", "++`(c);", "`(c)--;"};
        for (int i = 0; i < changed.length; i++) {
            Check.wrongText(3, THINGS + "int main(int n) { " + changed[i] + " }");
            Check.wrongText(3, "int f(int a[], char c[]) { " + changed[i] + " }" + MAIN);
        }
        for (int i = 0; i < CONSTANTS.length; i++) {
            Check.wrongText(3, "int a[2]; " + CONSTANTS[i].replace("#", "`a"));
        }
    }

    /** "what is none of that sort where an array is". */
    private static void numbersForArrays() {
        String[] numbers = {"n", "1", "a[0]", "(n)", "f(1)", "len(a)", "-n", "v()", "(v())", "n + 1", "(n = 1)", "(n ? 1 : 2)", "n++"};
        for (int i = 0; i < numbers.length; i++) {
            Check.wrongText(3, THINGS + "int main(int n) { i(`" + numbers[i] + "); }");
            Check.wrongText(3, THINGS + "int main(int n) { h(`" + numbers[i] + "); }");
            Check.wrongText(3, THINGS + "int main(int n) { len(`" + numbers[i] + "); }");
            Check.wrongText(3, THINGS + "int main(int n) { get(1, `" + numbers[i] + "); }");
            Check.wrongText(3, THINGS + "int main(int n) { set(1, `" + numbers[i] + "); }");
        }
        Check.wrongText(3, THINGS + "int main(int n) { i(`c); }");
        Check.wrongText(3, THINGS + "int main(int n) { i(`(c)); }");
        Check.wrongText(3, THINGS + "int main(int n) { h(`a); }");
        Check.wrongText(3, THINGS + "int main(int n) { get(1, `c); }");
        Check.wrongText(3, THINGS + "int main(int n) { set(1, `(c)); }");
        Check.wrongText(3, "int f(int a[]) { return g(`a); } int g(char c[]) { return f(c); }" + MAIN);
        fine(THINGS + "int main(int n) { i(a); i((a)); i(((a))); h(c); h((c)); len(a); len(c); len((c)); get(1, a); get(1, (a)); set(1, a); }");
        fine("int f(int a[], char c[]) { return f(a, c) + len(a) + len(c); }" + MAIN);
    }

    private static void indexOfNoArray() {
        Check.wrongText(3, "int main(int n) { `n[0]; }");
        Check.wrongText(3, "int main(int n) { `n[0] = 1; }");
        Check.wrongText(3, "int main(int n) { (`n[0])++; }");
        Check.wrongText(3, "int main(int n) { len(`n[0]); }");
        Check.wrongText(3, "char x; int main(int n) { return 1 + `x[0]; }");
        Check.wrongText(3, "enum { x }; int main(int n) { `x[0]; }");
        Check.wrongText(3, "int x() { } int main(int n) { `x[0]; }");
        Check.wrongText(2, "int main(int n) { `x[0]; }");
        Check.wrongText(2, "int main(int n) { (`x[0])++; }");
        fine("int main(int n) { int x[1]; x[0]; (x[0])++; }");
    }

    /** "4 too few or too many arguments, at the name". */
    private static void countsOfArguments() {
        String[] right = {"len(a)", "put(1)", "send(1, 2)", "recv(1)", "more(1)", "spawn(1, 2)", "wait(1)", "get(1, a)", "set(1, a)", "end(1)"};
        String start = THINGS + "int g(int x, char y[], char z) { return 1; } int main(int n) { ";
        for (int i = 0; i < right.length; i++) {
            fine(start + right[i] + "; }");
            Check.wrongText(4, start + "`" + right[i].substring(0, right[i].indexOf('(')) + "(); }");
            String more = "`" + right[i].replace(")", ", 1)");
            Check.wrongText(4, start + more + "; }");
            Check.wrongText(4, start + more.replace(", 1)", ", a)") + "; }");
            Check.wrongText(4, start + more.replace(", 1)", ", v(), c, q)") + "; }");
            if (right[i].indexOf(',') > 0) {
                Check.wrongText(4, start + "`" + right[i].substring(0, right[i].indexOf(',')) + "); }");
            }
        }
        fine(start + "g(1, c, 2); v(); f(1); }");
        Check.wrongText(4, start + "`g(1, c); }");
        Check.wrongText(4, start + "`g(1, c, 2, 3); }");
        Check.wrongText(4, start + "`g(); }");
        Check.wrongText(4, start + "`v(1); }");
        Check.wrongText(4, start + "`v(v()); }");
        Check.wrongText(4, start + "`f(); }");
        Check.wrongText(4, start + "`f(1, a); }");
        Check.wrongText(4, start + "`main(); }");
        Check.wrongText(4, "int f(void) { } int main(int n) { `f(1); }");
        // an argument before the ones too many must be right, but the name comes first
        Check.wrongText(4, start + "`f(a, 1); }");
        Check.wrongText(4, start + "return 1 + `v(1); }");
        Check.wrongText(4, start + "n = `len(a, a); }");
        // it stays what its function gives: no array, and nothing to assign to
        Check.wrongText(3, start + "len(`(f(1, 2))); }");
        Check.wrongText(6, start + "`(f(1, 2)) = 3; }");
        // "those of a name that is no function's, may be anything"
        Check.wrongText(2, start + "`q(a, c, v()); }");
        Check.wrongText(2, start + "`n(a, v()); }");
    }

    /** "5 void where a number is wanted, at the call's name". */
    private static void voidForNumbers() {
        for (int i = 0; i < WANTED.length; i++) {
            String main = THINGS + "int main(int n) { " + WANTED[i] + " }";
            Check.wrongText(5, main.replace("#", "`v()"));
            Check.wrongText(5, main.replace("#", "(`v())"));
            Check.wrongText(5, main.replace("#", "((`put(1)))"));
            fine(main.replace("#", "f(1)"));
        }
        for (int i = 0; i < BETWEEN.length; i++) {
            Check.wrongText(5, THINGS + "int main(int n) { `v() " + BETWEEN[i] + " n; }");
            Check.wrongText(5, THINGS + "int main(int n) { n " + BETWEEN[i] + " (`v()); }");
        }
        String[] nothing = {"put(1)", "send(1, 2)", "get(1, a)", "set(1, a)", "end(1)"};
        for (int i = 0; i < nothing.length; i++) {
            Check.wrongText(5, THINGS + "int main(int n) { n = `" + nothing[i] + "; }");
            fine(THINGS + "int main(int n) { " + nothing[i] + "; }");
        }
        String[] numbers = {"len(a)", "recv(1)", "more(1)", "spawn(1, 2)", "wait(1)"};
        for (int i = 0; i < numbers.length; i++) {
            fine(THINGS + "int main(int n) { n = " + numbers[i] + "; }");
        }
        for (int i = 0; i < CONSTANTS.length; i++) {
            Check.wrongText(5, CONSTANTS[i].replace("#", "`put(1)"));
        }
    }

    /** "6 what is assigned to, or ++ or --, is no variable or element (of void or not), at its first token". */
    private static void assignedTo() {
        String[] no = {"1", "'a'", "e", "(1)", "f(1)", "v()", "(v())", "put(1)", "(n + 1)", "(n = 1)", "(n ? n : n)", "(n++)", "(++n)", "(-n)", "(+n)",
            "len(a)", "(f(1))", "(a[0] + 1)", "(a[0]++)"};
        String start = THINGS + "enum { e }; int main(int n) { ";
        for (int i = 0; i < no.length; i++) {
            Check.wrongText(6, start + "`" + no[i] + " = 1; }");
            Check.wrongText(6, start + "`" + no[i] + " >>= 1; }");
            Check.wrongText(6, start + "`" + no[i] + "++; }");
            Check.wrongText(6, start + "`" + no[i] + "--; }");
            Check.wrongText(6, start + "++`" + no[i] + "; }");
            Check.wrongText(6, start + "-- `" + no[i] + "; }");
        }
        String[] unary = {"-n", "+n", "!n", "~n", "++n", "--n", "n++", "n--"};
        for (int i = 0; i < unary.length; i++) {
            Check.wrongText(6, start + "`" + unary[i] + " = 1; }");
            Check.wrongText(6, start + "++ `" + unary[i] + "; }");
        }
        String[] yes = {"n", "(n)", "((n))", "a[0]", "(a[0])", "((c[1]))", "x", "y"};
        for (int i = 0; i < yes.length; i++) {
            String with = start + "char x; int y; ";
            fine(with + yes[i] + " = 1; " + yes[i] + " |= 1; " + yes[i] + "++; " + yes[i] + "--; ++" + yes[i] + "; --" + yes[i] + "; }");
        }
    }

    /** "7 a k, or an e behind = of a variable of the text, that is not one". */
    private static void constantsOfWhat() {
        String[] right = {"1", "(2)", "+3", "-4 + 9", "~-5", "!0", "e", "(e + 1)", "1 + 2 * 3 - 4", "9 / 2", "9 % 5", "1 << 2", "9 >> 1", "3 & 7 | 1 ^ 5",
            "1 == 1", "1 != 2", "1 < 2", "2 > 1", "1 <= 1", "1 >= 1", "1 && 2", "0 || 1", "1 ? 2 : 3", "0 ? 1 / 0 : 2", "'a'", "0x8", "(1 ? e : 2)"};
        String[] wrong = {"w", "(w)", "1 + w", "w + 1", "-w", "0 && w", "1 || w", "1 ? 1 : w", "0 ? w : 1", "w ? 1 : 1", "s[0]", "(s[0])", "1 + s[0]", "f(1)",
            "1 + f(1)", "len(s)", "recv(0)", "(w = 1)", "(w += 1)", "w++", "w--", "++w", "--w", "1 + w++", "1 + (w = 1)", "0 && (w = 1)", "1 ? 1 : f(1)"};
        String before = "enum { e = 5 }; int w, s[2]; int f(int x) { return x; } ";
        for (int i = 0; i < CONSTANTS.length; i++) {
            for (int k = 0; k < right.length; k++) {
                fine(before + CONSTANTS[i].replace("{ e", "{ z").replace("#", right[k]));
            }
            for (int k = 0; k < wrong.length; k++) {
                Check.wrongText(7, before + CONSTANTS[i].replace("{ e", "{ z").replace("#", "`" + wrong[k]));
            }
            // what could not be assigned to is wrong by 6 if that comes first or at the same token
            Check.wrongText(6, before + CONSTANTS[i].replace("{ e", "{ z").replace("#", "`1++"));
            Check.wrongText(7, before + CONSTANTS[i].replace("{ e", "{ z").replace("#", "`1 + 1++"));
        }
        // only behind = of a variable of the text is it an e
        Check.wrongText(7, "int w; int q = `w = 1;" + MAIN);
        Check.wrongText(7, "int w; int q = `w += 1;" + MAIN);
        Check.wrongText(6, "int q = `1 = 1;" + MAIN);
        fine("int w; int main(int n) { int q = w = 1; int r = w++ + n; char s = main(1); }");
    }

    /** "where it is come to, no division by 0". */
    private static void divisionsInConstants() {
        String[] wrong = {"1 / 0", "1 % 0", "0 / 0", "1 / (1 - 1)", "1 % !1", "1 + 1 / 0", "(1 / 0)", "-(1 / 0)", "1 && 1 / 0", "0 || 1 / 0", "1 / 0 && 0",
            "1 / 0 || 1", "1 ? 1 / 0 : 1", "0 ? 1 : 1 / 0", "1 / 0 ? 1 : 2", "1 && (0 || 1 / 0)", "1 << 1 / 0", "0 * (1 / 0)", "1 / 0 == 1", "1 / 0 / 1"};
        String[] right = {"0 && 1 / 0", "1 || 1 / 0", "1 ? 1 : 1 / 0", "0 ? 1 / 0 : 1", "0 && 0 || 1", "1 || 0 && 1 / 0", "0 && 1 / 0 || 1", "(1 || 1 % 0) + 1",
            "0 ? 1 / 0 : 1 ? 2 : 1 % 0", "0 / 1 + 1", "0 % 1 + 1", "1 || 1 && 1 / 0", "2 && 0 && 1 / 0 || 1"};
        for (int i = 0; i < wrong.length; i++) {
            for (int k = 0; k < CONSTANTS.length; k++) {
                Check.wrongText(7, CONSTANTS[k].replace("#", "`" + wrong[i]));
            }
        }
        int[] values = {0, 1, 1, 1, 1, 1, 1, 2, 2, 1, 1, 1, 1};
        for (int i = 0; i < right.length; i++) {
            Check.value("enum { e = " + right[i] + " }; int x = " + right[i] + ", y[1] = { " + right[i] + " }; int main(int n) { switch (n) { case "
                    + right[i] + ": return e * 100 + x * 10 + y[0]; } }", values[i], values[i] * 111);
        }
        // within a function the same e is none of the text's
        Check.outcome("int main(int n) { int x = 1 / 0; }", 0, 9, 99, HomeSystem.ZERO);
    }

    /** "names that are wrong by 2 don't matter for that". */
    private static void unknownInConstants() {
        for (int i = 0; i < CONSTANTS.length; i++) {
            Check.wrongText(2, CONSTANTS[i].replace("#", "`q2"));
            Check.wrongText(2, CONSTANTS[i].replace("#", "1 + `q2"));
            Check.wrongText(2, CONSTANTS[i].replace("#", "1 / `q2"));
            Check.wrongText(2, CONSTANTS[i].replace("#", "(1 ? `q2 : 1)"));
            Check.wrongText(2, CONSTANTS[i].replace("#", "-`main"));
            Check.wrongText(2, CONSTANTS[i].replace("#", "1 + `put + 1"));
            Check.wrongText(7, CONSTANTS[i].replace("#", "`1 / 0 + q2"));
            Check.wrongText(7, CONSTANTS[i].replace("#", "`1 + q2 + recv(1)"));
            Check.wrongText(2, CONSTANTS[i].replace("#", "`q2(1)"));
            Check.wrongText(2, CONSTANTS[i].replace("#", "`q2[1]"));
        }
        // nor is their number known, as a size or as a case that was there
        String[] unknown = {"0 + `q2", "`q2 * 0", "0 - `q2", "-`q2 - 1", "(`q2) + 5000", "`q2 ? 0 : 0", "1 ? `q2 : 0", "0 || `q2", "1 && `q2"};
        for (int i = 0; i < unknown.length; i++) {
            Check.wrongText(2, "int x[" + unknown[i] + "];" + MAIN);
            Check.wrongText(2, "int main(int n) { switch (n) { case 0: case 1: case -1: case " + unknown[i] + ": } }");
        }
    }

    /** "8 a size that is not 1 .. 4096, at the k's first token". */
    private static void sizes() {
        String[] types = {"int", "char"};
        int[] sizes = {Integer.MIN_VALUE, -4096, -1, 0, 1, 2, 4095, 4096, 4097, 8192, 65537, Integer.MAX_VALUE};
        for (int t = 0; t < 2; t++) {
            for (int i = 0; i < sizes.length; i++) {
                boolean right = sizes[i] >= 1 && sizes[i] <= 4096;
                String text = types[t] + " x[`" + sizes[i] + "]; int main(int n) { return len(x); }";
                String local = "int main(int n) { return 3; } int f() { " + types[t] + " x[`" + sizes[i] + "]; return len(x); }";
                if (right) {
                    Check.value(text.replace("`", ""), 0, sizes[i]);
                    Check.value(local.replace("`", ""), 0, 3);
                } else {
                    Check.wrongText(8, text);
                    Check.wrongText(8, local);
                }
            }
            Check.wrongText(8, types[t] + " x[`(0)];" + MAIN);
            Check.wrongText(8, types[t] + " x[`1 - 1];" + MAIN);
            Check.wrongText(8, types[t] + " x[`4096 + 1];" + MAIN);
            fine(types[t] + " x[4096 + 0], y[1 + 0];" + MAIN);
        }
    }

    /** "more numbers in { } than the size, or a string with 0 behind it that is longer, or is given to int". */
    private static void listsAndStrings() {
        String[] types = {"int", "char"};
        for (int t = 0; t < 2; t++) {
            for (int size = 1; size < 6; size++) {
                for (int count = 1; count < 8; count++) {
                    String list = "{ 7" + Check.times(", 7", count - 1) + " }";
                    String text = types[t] + " x[" + size + "] = `" + list + "; int main(int n) { return x[" + (Math.min(size, count) - 1) + "]; }";
                    String local = "int main(int n) { " + types[t] + " x[" + size + "] = `" + list + "; return x[" + (Math.min(size, count) - 1) + "]; }";
                    if (count <= size) {
                        Check.value(text.replace("`", ""), 0, 7);
                        Check.value(local.replace("`", ""), 0, 7);
                    } else {
                        Check.wrongText(8, text);
                        Check.wrongText(8, local);
                    }
                }
                for (int length = 0; length < 7; length++) {
                    String string = "\"" + Check.times("\\n", length / 2) + Check.times("y", length - length / 2) + "\"";
                    String text = types[t] + " x[" + size + "] = `" + string + "; int main(int n) { return x[" + Math.min(length, size - 1) + "]; }";
                    if (t == 1 && length < size) {
                        Check.value(text.replace("`", ""), 0, 0);
                    } else {
                        Check.wrongText(8, text);
                    }
                }
            }
        }
        Check.wrongText(8, "int main(int n) { char x[3] = `\"abc\"; }");
        fine("int main(int n) { char x[4] = \"abc\"; }");
        Check.wrongText(8, "int main(int n) { int x[4] = `\"abc\"; }");
        Check.wrongText(8, "int main(int n) { for (char x[3] = `\"abc\";;) ; }");
        // what is wrong in the list comes behind its {
        Check.wrongText(8, "int x[1] = `{ 1, q };" + MAIN);
        Check.wrongText(2, "int x[2] = { 1, `q };" + MAIN);
        Check.wrongText(8, "int x[`0] = { 1 };" + MAIN);
        Check.wrongText(7, "int w; char x[`w] = \"abc\";" + MAIN);
        fine("char x[201] = \"" + Check.times("a", 200) + "\";" + MAIN);
        Check.wrongText(8, "char x[200] = `\"" + Check.times("a", 200) + "\";" + MAIN);
    }

    /** "9 break outside of a loop or switch, continue outside of a loop, at it". */
    private static void leaps() {
        String[] within = {"while (n) #", "do # while (n);", "for (;;) #", "while (n) { #  }", "for (;;) if (n) #", "while (n) { if (n) ; else { # } }"};
        for (int i = 0; i < within.length; i++) {
            fine("int main(int n) { " + within[i].replace("#", "break;") + " }");
            fine("int main(int n) { " + within[i].replace("#", "continue;") + " }");
            Check.wrongText(9, "int main(int n) { " + within[i].replace("#", "break;") + " `break; }");
            Check.wrongText(9, "int main(int n) { " + within[i].replace("#", "continue;") + " `continue; }");
            Check.wrongText(9, "int f() { " + within[i].replace("#", "break;").replace("n", "1").replace("co1ti1ue", "continue") + " } int main(int n) { `break; }");
            fine("int main(int n) { switch (n) { case 1: " + within[i].replace("#", "continue;") + " } }");
            fine("int main(int n) { " + within[i].replace("#", "switch (n) { case 1: continue; default: break; }") + " }");
            Check.wrongText(9, "int main(int n) { switch (n) { case 1: " + within[i].replace("#", "break;") + " break; `continue; } }");
        }
        fine("int main(int n) { switch (n) { case 1: break; case 2: { break; } default: if (n) break; } }");
        Check.wrongText(9, "int main(int n) { switch (n) { case 1: `continue; } }");
        Check.wrongText(9, "int main(int n) { switch (n) { default: { if (n) `continue; } } }");
        Check.wrongText(9, "int main(int n) { switch (n) { case 1: break; } `break; }");
        Check.wrongText(9, "int main(int n) { `break; while (n) ; }");
        Check.wrongText(9, "int main(int n) { if (n) `break; else continue; }");
    }

    /** "10 case of a number that was there (as ints), a second default, at case or default". */
    private static void cases() {
        Check.wrongText(10, "int main(int n) { switch (n) { case 1: `case 1: } }");
        Check.wrongText(10, "int main(int n) { switch (n) { case 0: case 1: case 2: `case 0: } }");
        Check.wrongText(10, "enum { e = 3 }; int main(int n) { switch (n) { case 3: n; `case e: } }");
        Check.wrongText(10, "int main(int n) { switch (n) { case 0: `case 4294967295 + 1: } }");
        Check.wrongText(10, "int main(int n) { switch (n) { case 2147483648: `case -2147483647 - 1: } }");
        fine("int main(int n) { switch (n) { case 0: case 1: case -1: case 256: case 255: case 2147483647: case 2147483648: case 4294967294: } }");
        Check.wrongText(10, "int main(int n) { switch (n) { default: `default: } }");
        Check.wrongText(10, "int main(int n) { switch (n) { default: case 1: n; `default: } }");
        Check.wrongText(10, "int main(int n) { switch (n) { case 1: default: n; `case 1: default: } }");
        fine("int main(int n) { switch (n) { default: switch (n) { default: case 1: } case 1: } switch (n) { case 1: default: } }");
        Check.wrongText(10, "int main(int n) { switch (n) { case 1: switch (n) { case 2: } `case 1: } }");
        fine("int main(int n) { switch (n) { case 1: switch (n) { case 2: } case 2: } }");
        // a char's number is an int here
        fine("int main(int n) { char c; switch (c) { case 0: case 256: } }");
    }

    /** "11 return with e in a void function, without in another, at it". */
    private static void returns() {
        String[] types = {"int", "char", "void"};
        for (int t = 0; t < 3; t++) {
            String start = types[t] + " f(int x) { if (x) ";
            if (t == 2) {
                fine(start + "return; }" + MAIN);
                Check.wrongText(11, start + "`return 1; }" + MAIN);
                Check.wrongText(11, start + "`return (x); }" + MAIN);
                Check.wrongText(11, start + "`return f(1); }" + MAIN);
                Check.wrongText(11, start + "return; `return x; }" + MAIN);
            } else {
                fine(start + "return 1; }" + MAIN);
                Check.wrongText(11, start + "`return; }" + MAIN);
                Check.wrongText(11, start + "return x; `return; }" + MAIN);
            }
            fine(types[t] + " f() { }" + MAIN);
        }
    }

    /** "12 no int main(int)". */
    private static void mains() {
        fine("int main(int n) { }");
        fine("int main(int main) { }");
        fine("int main(int x) { return main(x - 1); }");
        String[] no = {"", "int x;", "int Main(int n) { }", "int mai(int n) { }", "int main1(int n) { }", "void main(int n) { }", "char main(int n) { }",
            "int main() { }", "int main(void) { }", "int main(char n) { }", "int main(int n[]) { }", "int main(char n[]) { }", "int main(int n, int m) { }",
            "int main(char n, int m) { }"};
        for (int i = 0; i < no.length; i++) {
            Check.wrongText(12, no[i]);
            Check.wrongText(12, no[i] + " // behind it\n");
        }
        // whatever is wrong at a token comes before it
        Check.wrongText(2, "int f() { return `x; }");
        Check.wrongText(2, "void main(int n) { `x; }");
    }

    /** "13 a function whose FRAME has more than 8192 words": 8191, 8192, 8193. */
    private static void frames() {
        String[] bodies = {"int a[4096]; int b[%]; ", "int b[4096]; int c; { char d; } int a[%]; ", "char c[4096], d[4096]; int b[3000], a[%]; ",
            "int a[4096], b[%]; 1 + (2 + 3);", "int x[1]; if (1) { int a[4095]; } else { int b[%]; }"};
        int[] words = {4 + 4096, 4 + 4096 + 2, 4 + 2048 + 3000, 4 + 4096 + 3, 4 + 1 + 4095 + 1};
        String main = " int main(int n) { return 5; }";
        for (int i = 0; i < bodies.length; i++) {
            int left = 8192 - words[i];
            Check.value("void f() { " + bodies[i].replace("%", Integer.toString(left - 1)) + " }" + main, 0, 5);
            Check.value("void f() { " + bodies[i].replace("%", Integer.toString(left)) + " }" + main, 0, 5);
            Check.wrongText(13, "void f() { " + bodies[i].replace("%", Integer.toString(left + 1)) + " }" + main);
            Check.wrongText(13, main + "void f() { " + bodies[i].replace("%", Integer.toString(left + 1)) + " }");
            // one parameter more is one word more, an array two
            Check.wrongText(13, "void f(char p) { " + bodies[i].replace("%", Integer.toString(left)) + " }" + main);
            fine("void f(char p) { " + bodies[i].replace("%", Integer.toString(left - 1)) + " }" + main);
            Check.wrongText(13, "void f(char p[]) { " + bodies[i].replace("%", Integer.toString(left - 1)) + " }" + main);
            fine("void f(char p[]) { " + bodies[i].replace("%", Integer.toString(left - 2)) + " }" + main);
        }
        // no two functions share it, and the text's variables are none of it
        fine("int x[4096], y[4000]; void f() { int a[4096]; } void g() { int a[4096]; int b[4000]; }" + main);
    }

    /** "14 more than 200 functions (of its own), or variables of the text of more than 8192 words". */
    private static void functionsAndVariables() {
        int[] counts = {198, 199, 200, 201, 206};
        for (int i = 0; i < counts.length; i++) {
            StringBuilder text = new StringBuilder();
            for (int k = 0; k < counts[i] - 1; k++) {
                // one letter for the first ones, as there is no room for two in all
                text.append("int ");
                text.append(k < 26 ? Character.toString((char) ('a' + k)) : (char) ('a' + k % 26) + "" + (char) ('@' + k / 26)).append("(){}");
            }
            text.append("int main(int n){}");
            Check.told(text.toString(), counts[i] <= 200 ? 0 : 14, counts[i] <= 200 ? 0 : text.length() + 1);
        }
        String main = " int main(int n) { return 5; }";
        String[] variables = {"int a[4096], b[%];", "char c[4096]; int a[4096], b[%];", "int a[4095]; char c; int b[%];", "char c[1], d[4], e[5]; int b[4096], a[%];"};
        int[] words = {4096, 1024 + 4096, 4096, 1 + 1 + 2 + 4096};
        for (int i = 0; i < variables.length; i++) {
            int left = 8192 - words[i];
            Check.value(variables[i].replace("%", Integer.toString(left - 1)) + main, 0, 5);
            Check.value(variables[i].replace("%", Integer.toString(left)) + main, 0, 5);
            Check.wrongText(14, variables[i].replace("%", Integer.toString(left)) + "char z;" + main);
            Check.wrongText(14, variables[i].replace("%", Integer.toString(left)) + main + "int z;");
            Check.wrongText(14, variables[i].replace("%", Integer.toString(left)) + "char z[1];" + main);
            fine(variables[i].replace("%", Integer.toString(left)) + "enum { z };" + main);
        }
        // "the least number is told"
        Check.wrongText(12, "int a[4096], b[4096], c;");
        Check.wrongText(12, "void f() { int a[4096], b[4096]; }");
        Check.wrongText(13, "int a[4096], b[4096], c; void f() { int a[4096], b[4096]; }" + main);
    }

    /** Nothing of one text is known in the next, however it ended. */
    private static void theNextText() {
        String[] before = {"int x; int f(int y) { for (;;) while (y) { switch (y) { case 1: int z;", "int x; int f(int y) { int z; { { { @",
            "int f() { " + Check.times("{", 59) + "{", "int f() { return " + Check.times("- ", 59) + "@", "enum { x, f, a = (((((((((((@", "int x[(((@",
            "int f() { while (1) { do { for (;;) { q(1); } } while (1); } } int x, f, x;", "int f(int x) { " + Check.times("{ int x; ", 50)};
        String[] texts = {"int x, `x;" + MAIN, "int x; enum { `x };" + MAIN, "int main(int n) { `continue; }", "int main(int n) { `break; }", "int main(int n) { return `x; }",
            "int main(int n) { return `f(); }", "int main(int n) { return `z; }", "int x = `a;" + MAIN, "int main(int n) { return 0; `return; }"};
        int[] wrongs = {1, 1, 9, 9, 2, 2, 2, 2, 11};
        for (int i = 0; i < before.length; i++) {
            for (int k = 0; k < texts.length; k++) {
                HomeSystem system = new HomeSystem();
                Check.text(system, 0, before[i]);
                Check.due(texts[k] + " behind " + before[i], Check.text(system, 0, texts[k].replace("`", "")), wrongs[k]);
                Check.due("its place", system.place(), texts[k].indexOf('`') + 1);
            }
            HomeSystem system = new HomeSystem();
            Check.text(system, 0, before[i]);
            Check.right(system, 0, "int x = 4; int f(int y) " + Check.times("{", 60) + "return x;" + Check.times("}", 60) + " int main(int n) { return f(n); }");
            Check.due("run", system.run(0, 3, 9, 99), HomeSystem.DONE);
            Check.due("value", system.value(0), 4);
            Check.text(system, 0, before[i]);
            Check.due("61 open behind " + before[i], Check.text(system, 0, "int f() " + Check.times("{", 61) + Check.times("}", 61) + MAIN), HomeSystem.NONE);
            Check.due("its place", system.place(), 8 + 61);
        }
        // strings of many texts
        HomeSystem system = new HomeSystem();
        for (int i = 0; i < 3; i++) {
            String string = Check.times("x", 198) + (char) ('a' + i);
            StringBuilder text = new StringBuilder();
            for (int k = 0; k < 8; k++) {
                text.append("char s").append(k).append("[201]=\"").append(string).append((char) ('p' + k)).append("\";");
            }
            Check.right(system, i, text + "int main(int n){return s0[198]+s0[199]*1000+(s7[198]+s7[199]*1000)*0;}");
            Check.due("run", system.run(i, 0, 1, 99), HomeSystem.DONE);
            Check.due("value", system.value(0), 'a' + i + 'p' * 1000);
        }
    }

    /** "by the first of these in the order of its tokens (of two at one token, the one with the lesser number here)". */
    private static void theFirstAndTheLeast() {
        String[] wrongs = {"int n2, `n2;", "`q1;", "`a;", "`f();", "n = `v();", "`1 = 1;", "switch (1) { case `n: }", "int z1[`0];", "`break;",
            "switch (n) { default: `default: }", "`return;"};
        for (int i = 0; i < wrongs.length; i++) {
            for (int k = 0; k < wrongs.length; k++) {
                String second = wrongs[k].replace("`", "").replace("n2", "m2").replace("q1", "p1").replace("z1", "y1");
                Check.wrongText(i + 1, THINGS + "int main(int n) { " + wrongs[i] + " " + second + " }");
            }
            Check.wrongText(i + 1, THINGS + "int other(int n) { " + wrongs[i] + " }");
            Check.none(THINGS + "int main(int n) { " + wrongs[i].replace("`", "") + " `) }");
        }
        // at one token: 2 and 7, 3 and 7, 4 and 5, 4 and 7, 5 and 7, 6 and 7
        Check.wrongText(2, "int x = `q + 1 / 0;" + MAIN);
        Check.wrongText(3, "int a[2]; int x = `a + 1;" + MAIN);
        Check.wrongText(4, "int main(int n) { n = `put(); }");
        Check.wrongText(4, "int x = `recv();" + MAIN);
        Check.wrongText(4, "int x = `put() + 1;" + MAIN);
        Check.wrongText(5, "int x = `put(1) + 1;" + MAIN);
        Check.wrongText(6, "int x = `1 = 2;" + MAIN);
        Check.wrongText(6, "int main(int n) { int x[`1++]; }");
        Check.wrongText(1, "int `put() { } int put() { }" + MAIN);
        // an earlier token counts, even if what is wrong there is seen later
        Check.wrongText(7, "int w; int x = `1 + w + q;" + MAIN);
        Check.wrongText(2, "int main(int n) { (`q) = 2; }");
        Check.wrongText(2, "int main(int n) { (`q)++; }");
        Check.wrongText(2, "int main(int n) { ++(`q); }");
        Check.wrongText(2, "int main(int n) { len((`q)); }");
        Check.wrongText(2, "int main(int n) { len((`q(1))); }");
        Check.wrongText(2, "int main(int n) { 1 + (`q(1)) + 1; }");
        Check.wrongText(8, "int x[1] = `{ q, q };" + MAIN);
        Check.wrongText(10, "int main(int n) { switch (n) { case 1: `case 1 + 0 * 1: q; } }");
        Check.wrongText(11, "void f() { `return q; }" + MAIN);
        Check.wrongText(4, "int main(int n) { `put(q, q); }");
    }
}
