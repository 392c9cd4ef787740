/** The edges of the grammar: texts that end too early, what is OPEN and the DEPTH at 59, 60 and 61. */
public final class EdgeGrammarTest {
    private static final String BEFORE = "int a[9]; int k() { return 1; } int f(int x) { return x; } int g(int x, int y) { return x; } int main(int n) ";

    public static void main(String[] args) {
        endsTooEarly();
        stopsAtEachToken();
        anyNumberOrNone();
        oneOrNone();
        openBrackets();
        openUnary();
        openBetween();
        openStatements();
        openUpToTheEndOfStatements();
        openHeads();
        openConstants();
        openOfTheText();
        depthAndEachOperator();
        depthOfEachExpression();
        depthOfChains();
        Check.end("EdgeGrammarTest");
    }

    private static final String ALL = "enum { e1 , e2 = 2 ? 3 : 4 , e3 } ; int v1 , v2 = 7 , v3 [ 2 ] = { 1 , 2 } ; char v4 [ 3 ] ; "
            + "void p ( void ) { return ; } char q ( int x , char y [ ] ) { } "
            + "int main ( int n ) { { } ; n ; int a , b = 3 , c [ 4 ] = { 5 , - 6 } ; char d ; if ( n ) ; else n = 1 ; while ( n ) { n -- ; break ; } "
            + "do n ++ ; while ( n < 3 ) ; for ( ; ; ) { continue ; } for ( n = 1 ; n ; n = 0 ) ; for ( int i = 0 , j ; i ; i ++ ) ; "
            + "switch ( n ) { case 1 : case e2 : n = 3 ; default : break ; } switch ( n ) { } p ( ) ; q ( n , v4 ) ; c [ n ] += - + ! ~ ( n ) ; ++ n ; -- n ; "
            + "n ? n : n ? n : n ; n || n && n | n ^ n & n == n < n << n + n * n ; return n ; }";

    private static String first(String[] tokens, int count) {
        StringBuilder text = new StringBuilder();
        for (int i = 0; i < count; i++) {
            text.append(i == 0 ? "" : " ").append(tokens[i]);
        }
        return text.toString();
    }

    /** "the tape's length + 1, if it ends too early". */
    private static void endsTooEarly() {
        String[] tokens = ALL.split(" ");
        int braces = 0;
        int whole = 0;
        for (int count = 0; count < tokens.length; count++) {
            String text = first(tokens, count);
            boolean ended = count == 0 || braces == 0 && (tokens[count - 1].equals(";") || tokens[count - 1].equals("}") && !tokens[count].equals(";"));
            whole += ended ? 1 : 0;
            Check.told(text, ended ? 12 : HomeSystem.NONE, text.length() + 1);
            Check.told(text + " ", ended ? 12 : HomeSystem.NONE, text.length() + 2);
            braces += tokens[count].equals("{") ? 1 : tokens[count].equals("}") ? -1 : 0;
        }
        Check.due("so many whole texts stand before the last function", whole, 6);
        Check.told(ALL, 0, 0);
        Check.told("", 12, 1);
        Check.told(" ", 12, 2);
    }

    /** "where the first token begins with which no text of the language begins so". */
    private static void stopsAtEachToken() {
        String[] tokens = ALL.split(" ");
        for (int count = 0; count < tokens.length; count++) {
            String text = first(tokens, count);
            String rest = ALL.substring(text.length());
            Check.told(text + " @" + rest, HomeSystem.NONE, text.length() + 2);
            Check.told(text + " \"" + rest, HomeSystem.NONE, text.length() + 2);
        }
    }

    /** "{x} any number of x": none, one, many. */
    private static void anyNumberOrNone() {
        Check.none("enum {`};");
        Check.told("enum { a }; int main(int n) { }", 0, 0);
        Check.none("enum { a,`}; int main(int n) { }");
        Check.none("enum { a `b }; int main(int n) { }");
        Check.none("enum { `, a };");
        Check.none("int `;");
        Check.none("int a,`; int main(int n) { }");
        Check.none("char `, a;");
        Check.none("int f(`, int b) { }");
        Check.none("int f(int a `int b) { }");
        Check.none("int f(int a,`) { }");
        Check.none("int main(int n) { int `; }");
        Check.none("int main(int n) { int a,`; }");
        Check.none("int main(int n) { for (int `;;) ; }");
        Check.none("int main(int n) { f(`,); }");
        Check.none("int main(int n) { f(n,`); }");
        Check.none("int main(int n) { f(n `n); }");
        Check.none("int a[3] = { `, 1 };");
        Check.none("int a[3] = { 1 `2 };");
        Check.value("int main(int n) { " + Check.times(";", 1500) + " return 3; }", 0, 3);
        Check.value("int main(int n) { switch (n) { " + "default: " + Check.times(";", 1500) + " } return 3; }", 0, 3);
        StringBuilder names = new StringBuilder("int a0");
        StringBuilder parameters = new StringBuilder("int b0");
        StringBuilder given = new StringBuilder("0");
        for (int i = 1; i < 60; i++) {
            names.append(", a").append(i);
            parameters.append(", int b").append(i);
            given.append(", ").append(i);
        }
        Check.value(names + "; int f(" + parameters + ") { return b0 + b59 * 100; } int main(int n) { a59 = f(" + given + "); return a59; }", 0, 5900);
    }

    /** "[x] one or none". */
    private static void oneOrNone() {
        Check.none("int f(void`, int a) { }");
        Check.none("int f(void `void) { }");
        Check.none("int f(int a `= 1) { }");
        Check.none("int f(int a[]`[]) { }");
        Check.wrongText(6, "int a = `1 = 2; int main(int n) { }");
        Check.none("int a[2] = `= { 1 }; int main(int n) { }");
        Check.none("int a[2] = { 1 } `= 2; int main(int n) { }");
        Check.none("int a[2] = { 1 }`{ 2 }; int main(int n) { }");
        Check.none("int main(int n) { if (n) ; else ; `else ; }");
        Check.none("int main(int n) { if (n) `else ; }");
        Check.none("int main(int n) { for (;;`;) ; }");
        Check.none("int main(int n) { for (;`) ; }");
        Check.none("int main(int n) { for (`) ; }");
        Check.none("int main(int n) { for (n;n`) ; }");
        Check.none("int main(int n) { for (n `n;;) ; }");
        Check.none("int main(int n) { for (;;) `}");
        Check.none("int main(int n) { return n `n; }");
        Check.none("int main(int n) { n++`--; }");
        Check.none("int main(int n) { n `n; }");
    }

    /** A text with so much OPEN (one at least) where the part stands; the part may mark its place. */
    private static String at(int open, String part) {
        return BEFORE + Check.times("{", open) + " " + part + " " + Check.times("}", open);
    }

    private static void stands(int open, String part) {
        Check.told(at(open, part), 0, 0);
    }

    private static void failsAt(int open, String marked) {
        Check.none(at(open, marked));
    }

    private static void openBrackets() {
        stands(58, "{ }");
        stands(59, "{ }");
        failsAt(60, "`{ }");
        stands(58, "{ { } }");
        failsAt(59, "{ `{ } }");
        stands(59, "(n);");
        failsAt(60, "`(n);");
        failsAt(59, "(`(n));");
        stands(59, "k();");
        failsAt(60, "k`();");
        stands(59, "f(n);");
        failsAt(60, "f`(n);");
        stands(58, "f(f(n));");
        failsAt(59, "f(f`(n));");
        stands(59, "a[n];");
        failsAt(60, "a`[n];");
        stands(58, "a[a[n]];");
        failsAt(59, "a[a`[n]];");
        stands(59, "{ } (n); f(n); a[n]; { n; }");
        stands(60, "n; ; return n;");
        stands(60, "int x; int y = n;");
        // sizes and { k } within functions
        stands(59, "int x[2]; char y[2] = { 1, 2 };");
        failsAt(60, "int x`[2];");
        stands(58, "int x[(2)] = { (1) };");
        failsAt(59, "int x[`(2)];");
        failsAt(59, "int x[2] = { `(1) };");
        stands(59, "char x[2] = \"a\";");
    }

    private static void openUnary() {
        String[] operators = {"-", "+", "!", "~", "++", "--"};
        for (int i = 0; i < operators.length; i++) {
            stands(58, operators[i] + " n;");
            stands(59, operators[i] + " n;");
            failsAt(60, "`" + operators[i] + " n;");
            failsAt(59, "+ `" + operators[i] + " n;");
            failsAt(59, "- `" + operators[i] + " n;");
            // it is open to the end of its operand, not longer
            stands(57, "- n | " + operators[i] + " (n);");
            failsAt(59, "f(`" + operators[i] + " n);");
        }
        stands(57, "-(-n);");
        failsAt(58, "-(`-n);");
    }

    private static final String[] BETWEEN = {"||", "&&", "|", "^", "&", "==", "!=", "<", ">", "<=", ">=", "<<", ">>", "+", "-", "*", "/", "%"};
    private static final String[] ASSIGNED = {"=", "+=", "-=", "*=", "/=", "%=", "<<=", ">>=", "&=", "|=", "^="};

    private static void openBetween() {
        for (int i = 0; i < BETWEEN.length; i++) {
            stands(57, "n " + BETWEEN[i] + " n;");
            stands(58, "n " + BETWEEN[i] + " n;");
            failsAt(59, "n `" + BETWEEN[i] + " n;");
            failsAt(60, "n `" + BETWEEN[i] + " n;");
            // open to the end of its right operand
            stands(58, "n " + BETWEEN[i] + " (n);");
            failsAt(58, "n " + BETWEEN[i] + " (`(n));");
            stands(58, "n " + BETWEEN[i] + " - n;");
            failsAt(58, "n " + BETWEEN[i] + " - `- n;");
        }
        for (int i = 0; i < ASSIGNED.length; i++) {
            stands(57, "n " + ASSIGNED[i] + " n;");
            stands(58, "n " + ASSIGNED[i] + " n;");
            failsAt(59, "n `" + ASSIGNED[i] + " n;");
            failsAt(60, "n `" + ASSIGNED[i] + " n;");
            stands(58, "n " + ASSIGNED[i] + " (n);");
            failsAt(58, "n " + ASSIGNED[i] + " (`(n));");
            failsAt(58, "n " + ASSIGNED[i] + " n `= n;");
            stands(57, "n " + ASSIGNED[i] + " n = n;");
        }
        stands(58, "n ? n : n;");
        failsAt(59, "n `? n : n;");
        failsAt(60, "n `? n : n;");
        stands(58, "n ? (n) : n;");
        failsAt(58, "n ? (`(n)) : n;");
        stands(58, "n ? n : (n);");
        failsAt(58, "n ? n : (`(n));");
        failsAt(58, "n ? n `? n : n : n;");
        failsAt(58, "n ? n : n `? n : n;");
        stands(57, "n ? n : n ? n : n;");
        stands(57, "n ? n ? n : n : n;");
        // behind the end of its c it is open no more
        stands(58, "(n); n ? n : n; (n); -n;");
        stands(58, "n++; n--;");
        failsAt(59, "n`++;");
        failsAt(59, "n`--;");
        failsAt(60, "n`++;");
        failsAt(60, "n`--;");
        stands(57, "a[n]++;");
        failsAt(58, "a[n]`++;");
        failsAt(58, "- n`++;");
        stands(57, "- n++;");
    }

    private static void openStatements() {
        String[] words = {"if", "while", "for", "switch"};
        String[] rests = {"(n) ;", "(0) ;", "(; 0;) ;", "(n) { }"};
        for (int i = 0; i < words.length; i++) {
            stands(57, words[i] + " " + rests[i]);
            stands(58, words[i] + " " + rests[i]);
            failsAt(59, words[i] + " `" + rests[i]);
            failsAt(60, "`" + words[i] + " " + rests[i]);
        }
        stands(58, "do ; while (0);");
        failsAt(59, "do ; while `(0);");
        failsAt(60, "`do ; while (0);");
        // the while behind a do's s is not open
        stands(58, "do (n); while (0);");
        failsAt(58, "do ; while (`(0));");
        stands(57, "do ; while ((0));");
        // all that is open at once
        stands(1, Check.times("if (n) while (0) ", 29) + "n;");
        failsAt(1, Check.times("if (n) while (0) ", 29) + "if `(n) ;");
    }

    /** "if (also its else) and so on to the end of the whole statement". */
    private static void openUpToTheEndOfStatements() {
        String[] statements = {"if (n) #", "if (n) ; else #", "while (0) #", "for (; 0;) #", "do # while (0);", "if (n) # else ;"};
        for (int i = 0; i < statements.length; i++) {
            stands(58, statements[i].replace("#", "{ }"));
            failsAt(58, statements[i].replace("#", "{ `{ } }"));
            stands(58, statements[i].replace("#", ";") + " { { } }");
            failsAt(58, statements[i].replace("#", ";") + " { { `{ } } }");
            stands(57, statements[i].replace("#", "{ { } }"));
        }
        stands(58, "switch (n) { case 1: n; }");
        failsAt(58, "switch (n) { case 1: `{ } }");
        stands(57, "switch (n) { case 1: { } }");
        stands(58, "switch (n) { } { { } }");
        // an else goes with the nearest if, so both are open in it
        stands(57, "if (n) if (n) ; else { }");
        failsAt(57, "if (n) if (n) ; else { `{ } }");
        // the first if ends before the braces do, so that its else has but one
        stands(56, "if (n) { if (n) ; } else { { { } } }");
        failsAt(56, "if (n) { if (n) ; } else { { { `{ } } } }");
        stands(57, "if (n) ; else if (n) { }");
        failsAt(57, "if (n) ; else if (n) { `{ } }");
    }

    private static void openHeads() {
        failsAt(58, "if (`(n)) ;");
        failsAt(58, "while (`-n) ;");
        failsAt(58, "switch (`-n) { }");
        failsAt(58, "for (`-n; n; n) ;");
        failsAt(58, "for (n; `-n; n) ;");
        failsAt(58, "for (n; n; `-n) ;");
        failsAt(58, "for (int x`[1]; n; n) ;");
        failsAt(58, "for (int x = `-n; n; n) ;");
        stands(57, "for (-n; -n; -n) -n;");
        stands(57, "for (int x[1]; -n; -n) -n;");
        stands(57, "for (int x = -n; -n; -n) -n;");
        failsAt(57, "for (int x = n `+ n; n; n) ;");
        stands(56, "for (int x = n + n; n; n) ;");
        stands(58, "for (; n; ) -n;");
        failsAt(58, "for (; n; ) - `- n;");
    }

    private static void openConstants() {
        stands(57, "switch (n) { case -1: }");
        failsAt(58, "switch (n) { case `-1: }");
        stands(56, "switch (n) { case 1 + 1: }");
        failsAt(57, "switch (n) { case 1 `+ 1: }");
        stands(58, "int x[+2];");
        failsAt(59, "int x[`+2];");
        stands(57, "int x[1 + 1];");
        failsAt(58, "int x[1 `+ 1];");
        stands(57, "int x[2] = { 1 + 1 };");
        failsAt(58, "int x[2] = { 1 `+ 1 };");
        stands(57, "int x[2] = { 1 ? 1 : 1 };");
        failsAt(58, "int x[2] = { 1 `? 1 : 1 };");
        // = of a declaration opens nothing, = of an expression does
        stands(59, "int x = -n;");
        failsAt(60, "int x = `-n;");
        stands(58, "int x = n + n;");
        failsAt(59, "int x = n `+ n;");
    }

    /** "brackets of parameters, sizes, enum and { k } too", where nothing else is open. */
    private static void openOfTheText() {
        String main = "; int main(int n) { }";
        Check.told("int a = " + Check.times("- ", 60) + "1" + main, 0, 0);
        Check.none("int a = " + Check.times("- ", 60) + "`-1" + main);
        Check.told("enum { a = " + Check.times("- ", 59) + "1 }" + main, 0, 0);
        Check.none("enum { a = " + Check.times("- ", 59) + "`-1 }" + main);
        Check.told("int a[" + Check.times("+ ", 59) + "1]" + main, 0, 0);
        Check.none("int a[" + Check.times("+ ", 59) + "`+1]" + main);
        Check.told("int a[1] = { " + Check.times("- ", 59) + "1 }" + main, 0, 0);
        Check.none("int a[1] = { " + Check.times("- ", 59) + "`-1 }" + main);
        // the brackets of parameters have closed when the body begins
        Check.told("int f(int a[], char b[]) " + Check.times("{", 60) + Check.times("}", 60) + " int main(int n) { }", 0, 0);
        Check.none("int f(int a[], char b[]) " + Check.times("{", 60) + "`{" + Check.times("}", 61) + " int main(int n) { }");
        // nothing stays open from one declaration to the next
        Check.told("enum { a }; int b[2] = { 1 }, c = 1 ? 2 : 3; int f(int a[]) { while (0) ; } int main(int n) "
                + Check.times("{", 60) + Check.times("}", 60), 0, 0);
    }

    /** An operand of a depth of one and more. */
    private static String deep(int depth) {
        return Check.times("!", depth - 1) + "n";
    }

    /** "come to 60 or more together": 59 and 60, for each operator and many depths. */
    private static void depthAndEachOperator() {
        int[] depths = {1, 2, 3, 10, 30, 57, 58};
        for (int d = 0; d < depths.length; d++) {
            int depth = depths[d];
            for (int i = 0; i < BETWEEN.length; i++) {
                stands(59 - depth, deep(depth) + " " + BETWEEN[i] + " n;");
                failsAt(60 - depth, deep(depth) + " `" + BETWEEN[i] + " n;");
            }
            for (int i = 0; i < ASSIGNED.length; i++) {
                Check.told(at(59 - depth, deep(depth) + " " + ASSIGNED[i] + " n;"), depth == 1 ? 0 : 6,
                        depth == 1 ? 0 : at(59 - depth, "").indexOf("{ ", BEFORE.length()) + 3);
                failsAt(60 - depth, deep(depth) + " `" + ASSIGNED[i] + " n;");
            }
            stands(59 - depth, deep(depth) + " ? n : n;");
            failsAt(60 - depth, deep(depth) + " `? n : n;");
        }
        // an index of a depth of so many makes an element that is deeper by one
        for (int depth = 1; depth < 57; depth += 11) {
            stands(58 - depth, "a[" + deep(depth) + "]++;");
            failsAt(59 - depth, "a[" + deep(depth) + "]`++;");
            stands(58 - depth, "a[" + deep(depth) + "]--;");
            failsAt(59 - depth, "a[" + deep(depth) + "]`--;");
            stands(58 - depth, "a[" + deep(depth) + "] = n;");
            failsAt(59 - depth, "a[" + deep(depth) + "] `= n;");
            stands(58 - depth, "- a[" + deep(depth) + "];");
        }
        // as deep as it may be it may stand where nothing comes behind it
        stands(1, Check.times("!", 59) + "n;");
        failsAt(1, Check.times("!", 59) + "n `| n;");
        failsAt(1, Check.times("!", 58) + "n `| n;");
        stands(1, Check.times("!", 57) + "n | n;");
    }

    /** The depth of an expression, as ? behind it sees it. */
    private static void depth(String expression, int depth) {
        stands(59 - depth, expression + " ? n : n;");
        failsAt(60 - depth, expression + " `? n : n;");
    }

    /** Likewise, but where it is too deep it can't stand itself. */
    private static void innerDepth(String expression, int depth, String marked) {
        stands(59 - depth, expression + " ? n : n;");
        failsAt(60 - depth, marked + " ? n : n;");
    }

    private static void depthOfEachExpression() {
        String[] ones = {"n", "5", "'a'", "k()", "(n)", "+n"};
        for (int i = 0; i < ones.length; i++) {
            depth(ones[i], 1);
        }
        String[] twos = {"-n", "!n", "~n", "++n", "--n", "n++", "n--", "(n)++", "a[n]", "a[(n)]", "f(n)", "g(n, n)", "(f(n))",
            "a[k()]", "f(k())", "n + n", "n * n", "n && n", "n < n", "+n + n", "n + +n", "(n) + (n)", "k() + k()"};
        for (int i = 0; i < twos.length; i++) {
            depth(twos[i], 2);
        }
        String[] threes = {"- -n", "-n++", "!~n", "a[-n]", "a[n++]", "f(-n)", "g(-n, n)", "g(n, -n)", "-f(n)", "f(f(n))", "a[a[n]]",
            "a[n + n]", "f(n + n)", "a[n]++", "-n + n", "n + -n", "n * n + n", "n + n * n", "n + a[n]", "a[n] + n", "f(n) * n",
            "n && n || n", "n < n == n", "n + n << n", "(n = -n)", "(n ? -n : n)", "(n ? n : -n)", "n++ + n"};
        for (int i = 0; i < threes.length; i++) {
            depth(threes[i], 3);
        }
        depth("f(-n) + n", 4);
        depth("-a[-n]", 4);
        depth("-(n + n) + n", 4);
        depth("-n * n + n", 4);
        depth("n || n && n | n ^ n & n == n < n << n + n * n", 11);
        depth("n * n + n << n < n == n & n ^ n | n && n || n", 11);
        innerDepth("((n))", 1, "(`(n))");
        innerDepth("+ + n", 1, "+ `+ n");
        innerDepth("+(n)", 1, "+`(n)");
        innerDepth("(+n)", 1, "(`+n)");
        innerDepth("(k())", 1, "(k`())");
        innerDepth("+n++", 2, "+n`++");
        innerDepth("(n++)", 2, "(n`++)");
        innerDepth("n + n * n + n", 3, "n + n * n `+ n");
        innerDepth("(n = n)", 2, "(n `= n)");
        innerDepth("(n += n)", 2, "(n `+= n)");
        innerDepth("(n = n = n)", 3, "(n = n `= n)");
        innerDepth("(a[n] = n)", 3, "(a[n] `= n)");
        innerDepth("(n ? n : n)", 2, "(n `? n : n)");
        innerDepth("(-n ? n : n)", 3, "(-n `? n : n)");
        innerDepth("(n ? n : n ? n : n)", 3, "(n ? n : n `? n : n)");
        innerDepth("n + (n + n)", 3, "n + (n `+ n)");
        innerDepth("(n + n) + (n + n)", 3, "(n + n) + (n `+ n)");
    }

    /** "operators of one sort, from the left, make one expression of all their operands". */
    private static void depthOfChains() {
        String[][] sorts = {{"||"}, {"&&"}, {"|"}, {"^"}, {"&"}, {"==", "!="}, {"<", ">", "<=", ">="}, {"<<", ">>"}, {"+", "-"}, {"*", "/", "%"}};
        for (int i = 0; i < sorts.length; i++) {
            StringBuilder chain = new StringBuilder("n");
            StringBuilder left = new StringBuilder("n");
            StringBuilder plus = new StringBuilder("n");
            for (int k = 0; k < 12; k++) {
                String operator = " " + sorts[i][k % sorts[i].length] + " n";
                chain.append(operator);
                left.insert(0, '(').append(operator).append(')');
                plus.insert(0, "+(").append(operator).append(')');
            }
            String last = " " + sorts[i][0] + " n;";
            stands(57, chain + last);
            failsAt(58, "n " + sorts[i][0] + " n `" + sorts[i][sorts[i].length - 1] + " n;");
            // eleven brackets are open about the first two, which leaves room for a depth of two and no more
            stands(58 - 12, left + last);
            stands(58 - 13, "(" + left + ")" + last);
            stands(58 - 24, plus + last);
            stands(57 - 12, left + " ? n : n;");
            // what is no chain of that sort is one operand, whatever it is
            for (int k = 0; k < sorts[i].length; k++) {
                String then = " " + sorts[i][k] + " n";
                depth("-n" + then, 3);
                depth("n++" + then, 3);
                depth("f(n)" + then, 3);
                depth("a[n]" + then, 3);
                depth("(n = n)" + then, 3);
                depth("(n ? n : n)" + then, 3);
                depth("n" + then, 2);
            }
            // an operator of another sort makes it deeper
            String[] other = sorts[(i + 1) % sorts.length];
            stands(56, "(n " + sorts[i][0] + " n) " + other[0] + " n;");
            stands(56, "(n " + other[0] + " n) " + sorts[i][0] + " n " + sorts[i][0] + " n;");
            failsAt(57, "(n " + other[0] + " n) " + sorts[i][0] + " n `" + sorts[i][0] + " n;");
        }
        // what is deep in one operand counts for all
        innerDepth("n + -n + n", 3, "n + -n `+ n");
        depth("n + n + -n", 3);
        innerDepth("-n + n + n", 3, "-n + n `+ n");
        innerDepth("(-n + n) + n", 3, "(-n `+ n) + n");
        innerDepth("(n + -n) + n", 3, "(n + -n) `+ n");
        // another unary operator than + makes it one operand
        innerDepth("-(n + n)", 3, "-(n `+ n)");
        innerDepth("-(n + n) + n + n", 4, "-(n + n) + n `+ n");
        depth("~(n + n) - n", 4);
        // so do a call and an index, and a bracket about what is no chain of that sort
        depth("f(n + n) + n", 4);
        depth("a[n + n] + n", 4);
        depth("(n * n) + n", 3);
        innerDepth("+(n * n) + n + n", 3, "+(n `* n) + n + n");
    }
}
