/** The edges of TOKENS: what is too long, too great or without an end, each byte, and one step on either side. */
public final class EdgeTokensTest {
    private static final String MAIN = "int main(int n) { }";
    private static final String KEYWORDS = "int char void enum if else while do for switch case default break continue return";

    public static void main(String[] args) {
        everyByteBetweenTokens();
        commentsToTheEndOfALine();
        commentsWithAnEnd();
        commentsAndQuotes();
        lengthsOfNames();
        bytesOfNames();
        keywordsAreNoNames();
        otherWordsAreNames();
        numbersOfDigits();
        greatestNumber();
        numbersOfFigures();
        figures();
        whereAnXBeginsFigures();
        lettersBehindNumbers();
        numbersWrapWhereverTheyStand();
        everyCharacter();
        everyEscapedCharacter();
        charactersWithoutAnEnd();
        everyByteOfStrings();
        everyEscapedByteOfStrings();
        lengthsOfStrings();
        severalStrings();
        stringsWithoutAnEnd();
        longestMarks();
        marksThatAreNone();
        Check.end("EdgeTokensTest");
    }

    /** "blanks (32, 9, 10, 13)": all other bytes are none; letters make another name of int. */
    private static void everyByteBetweenTokens() {
        for (int b = 0; b < 256; b++) {
            boolean blank = b == 32 || b == 9 || b == 10 || b == 13;
            boolean namely = b >= 'a' && b <= 'z' || b >= 'A' && b <= 'Z' || b >= '0' && b <= '9' || b == '_';
            Check.told((char) b + MAIN, blank ? 0 : HomeSystem.NONE, blank ? 0 : 1);
            Check.told(MAIN + (char) b, blank ? 0 : HomeSystem.NONE, blank ? 0 : MAIN.length() + 1);
            if (!namely && !blank) {
                Check.told("int" + (char) b + "x;" + MAIN, HomeSystem.NONE, 4);
            }
        }
    }

    /** "// to the next byte 10 or the tape's end". */
    private static void commentsToTheEndOfALine() {
        Check.told(MAIN + "//", 0, 0);
        Check.told(MAIN + "//\n", 0, 0);
        Check.told(MAIN + "// }\n}", HomeSystem.NONE, MAIN.length() + 6);
        Check.told(MAIN + "// }\r}", 0, 0);
        Check.told(MAIN + "// }\t}\0\u00ff\"'", 0, 0);
        Check.told("//" + MAIN, 12, MAIN.length() + 3);
        Check.told("//\n" + MAIN, 0, 0);
        Check.told("//\\\n" + MAIN, 0, 0);
        Check.told("// /*\n" + MAIN, 0, 0);
        Check.told(MAIN + "/", HomeSystem.NONE, MAIN.length() + 1);
        Check.told(MAIN + "/ /", HomeSystem.NONE, MAIN.length() + 1);
    }

    /** "/* to the next * and / behind it, the * of /* not counting"; "what has no end, can't stand". */
    private static void commentsWithAnEnd() {
        Check.told(MAIN + "/**/", 0, 0);
        Check.told(MAIN + "/***/", 0, 0);
        Check.told(MAIN + "/* /* */", 0, 0);
        Check.told(MAIN + "/*\n\0\u00ff//*/", 0, 0);
        Check.told(MAIN + "/* */ */", HomeSystem.NONE, MAIN.length() + 7);
        Check.told(MAIN + "/*/*/", 0, 0);
        String[] open = {"/*", "/**", "/*/", "/* * /", "/* *", "/* /", "/*/ /*", "/*\n", "/*//\n"};
        for (int i = 0; i < open.length; i++) {
            Check.told(MAIN + " " + open[i], HomeSystem.NONE, MAIN.length() + 2);
        }
        Check.told("int/**/main(int/* int */n){/**//**/}", 0, 0);
        Check.told("in/**/t main(int n) { }", HomeSystem.NONE, 1);
        // a comment that is no end too early: what the text lacks comes first
        Check.told("int /*", HomeSystem.NONE, 5);
        Check.told("int /**/", HomeSystem.NONE, 9);
    }

    private static void commentsAndQuotes() {
        Check.value("char s[9] = \"//\", t[9] = \"/*\"; int main(int n) { return len(s) + s[1] + t[1] /* \" */; } // '", 0, 9 + '/' + '*');
        Check.expression("'/' + '*'/* ' */", 0, '/' + '*');
    }

    /** "NAMES (... at most 24)". */
    private static void lengthsOfNames() {
        for (int length = 1; length <= 24; length++) {
            String name = Check.times("a", length);
            Check.value("int main(int " + name + ") { return " + name + "; }", 6, 6);
        }
        Check.none("int main(int `" + Check.times("a", 25) + ") { }");
        Check.none("int main(int n) { return `" + Check.times("a", 25) + "; }");
        Check.none("int main(int `" + Check.times("_9", 13) + ") { }");
        Check.none("int `" + Check.times("a", 2000));
        // names that differ in their last letter, or by one letter more, are two
        String first = Check.times("a", 23);
        Check.value("int main(int n) { int " + first + " = 1, " + first + "a = 2, " + first + "b = 3, A = 4, a = 5; return "
                + first + " + " + first + "a * 10 + " + first + "b * 100 + A * 1000 + a * 10000; }", 0, 54321);
    }

    /** "letters, digits, _, no digit first". */
    private static void bytesOfNames() {
        for (int b = 33; b < 256; b++) {
            boolean letter = b >= 'a' && b <= 'z' || b >= 'A' && b <= 'Z' || b == '_';
            boolean digit = b >= '0' && b <= '9';
            if (letter) {
                Check.told("int " + (char) b + ";" + MAIN, 0, 0);
            } else {
                Check.told("int " + (char) b + ";" + MAIN, HomeSystem.NONE, 5);
            }
            if (letter || digit) {
                Check.told("int x" + (char) b + ";" + MAIN, 0, 0);
            } else if (b != ';' && b != ',') {
                Check.told("int x" + (char) b + ";" + MAIN, HomeSystem.NONE, b == '(' || b == '[' || b == '=' ? 7 : 6);
            }
        }
    }

    private static void keywordsAreNoNames() {
        String[] words = KEYWORDS.split(" ");
        for (int i = 0; i < words.length; i++) {
            Check.none("int `" + words[i] + ";" + MAIN);
            Check.told("int " + words[i] + "_;" + MAIN, 0, 0);
            Check.told("int x" + words[i] + ";" + MAIN, 0, 0);
            Check.told("int " + words[i].toUpperCase() + ";" + MAIN, 0, 0);
            Check.told("int " + words[i].substring(1) + "q;" + MAIN, 0, 0);
        }
    }

    /** There are fifteen keywords: what else is one in C is a name. */
    private static void otherWordsAreNames() {
        String[] words = ("auto const double extern float goto inline long register short signed sizeof static struct typedef union unsigned "
                + "volatile bool true false null NULL string byte asm define include").split(" ");
        for (int i = 0; i < words.length; i++) {
            Check.value("int main(int " + words[i] + ") { return " + words[i] + "; }", 6, 6);
            Check.none("int x; " + "`" + words[i] + " x;" + MAIN);
        }
        Check.told("int put; int main(int n) { }", 1, 5);
        Check.told("int x, main; int f(int n) { }", 12, 30);
    }

    /** "NUMBERS (1 to 10 digits". */
    private static void numbersOfDigits() {
        for (int count = 1; count <= 10; count++) {
            Check.expression(Check.times("0", count - 1) + "7", 0, 7);
        }
        Check.none("int main(int n) { return `" + Check.times("0", 11) + "; }");
        Check.none("int main(int n) { return `" + Check.times("0", 10) + "7; }");
        Check.none("int main(int n) { return `" + Check.times("1", 11) + "; }");
        Check.none("int main(int n) { return `" + Check.times("9", 200) + "; }");
        Check.expression("1234567890", 0, 1234567890);
        Check.expression("0", 0, 0);
    }

    /** "below 2 to the 32": a number is an int, "from 2 to the 31 on it wraps". */
    private static void greatestNumber() {
        Check.expression("2147483647", 0, Integer.MAX_VALUE);
        Check.expression("2147483648", 0, Integer.MIN_VALUE);
        Check.expression("2147483649", 0, Integer.MIN_VALUE + 1);
        Check.expression("4294967294", 0, -2);
        Check.expression("4294967295", 0, -1);
        Check.none("int main(int n) { return `4294967296; }");
        Check.none("int main(int n) { return `4294967297; }");
        Check.none("int main(int n) { return `9999999999; }");
    }

    /** "0x and 1 to 8 figures". */
    private static void numbersOfFigures() {
        for (int count = 1; count <= 8; count++) {
            Check.expression("0x" + Check.times("0", count - 1) + "7", 0, 7);
            Check.expression("0x" + Check.times("f", count), 0, (int) ((1L << 4 * count) - 1));
        }
        Check.none("int main(int n) { return `0x; }");
        Check.none("int main(int n) { return `0x ; }");
        Check.none("int main(int n) { return `0x 1; }");
        Check.none("int main(int n) { return `0x");
        Check.none("int main(int n) { return `0x000000000; }");
        Check.none("int main(int n) { return `0xfffffffff; }");
        Check.expression("0x7fffffff", 0, Integer.MAX_VALUE);
        Check.expression("0x80000000", 0, Integer.MIN_VALUE);
    }

    /** "figures 0 .. 9 a .. f A .. F": each byte, where no other figure is behind it. */
    private static void figures() {
        for (int b = 33; b < 127; b++) {
            int figure = "0123456789abcdef".indexOf(Character.toLowerCase((char) b));
            String text = "int main(int n) { return 0x" + (char) b + "; }";
            if (figure >= 0) {
                Check.value(text, 0, figure);
            } else {
                Check.told(text, HomeSystem.NONE, 26);
            }
        }
        Check.none("int main(int n) { return 0x1`g; }");
        Check.none("int main(int n) { return 0xF`G; }");
        Check.none("int main(int n) { return 1`f; }");
        Check.none("int main(int n) { return 0`a; }");
    }

    /** "whenever x comes behind a 0 that begins one". */
    private static void whereAnXBeginsFigures() {
        Check.none("int main(int n) { return 00`x1; }");
        Check.none("int main(int n) { return 10`x1; }");
        Check.none("int main(int n) { return 1`x1; }");
        Check.none("int main(int n) { return 0`X1; }");
        Check.none("int main(int n) { return `0xx; }");
        Check.none("int main(int n) { return 0x0`x1; }");
        Check.none("int main(int n) { int x; return 0 `x; }");
        Check.value("int main(int n) { int x1 = 5; return 0+x1; }", 0, 5);
    }

    /** A number ends before a letter that is no figure of it, and a name can't stand there. */
    private static void lettersBehindNumbers() {
        for (int b = 'A'; b <= 'z'; b++) {
            boolean letter = b >= 'a' || b <= 'Z' || b == '_';
            boolean figure = b >= 'a' && b <= 'f' || b <= 'F';
            if (letter) {
                Check.none("int main(int n) { return 7`" + (char) b + "; }");
                Check.none("int main(int n) { return 'a'`" + (char) b + "; }");
                Check.none("char s[2] = \"a\"`" + (char) b + ";" + MAIN);
            }
            if (letter && b != 'x') {
                Check.none("int main(int n) { return 0`" + (char) b + "; }");
            }
            if (letter && !figure) {
                Check.none("int main(int n) { return 0x7`" + (char) b + "; }");
            }
        }
    }

    /** "from 2 to the 31 on it wraps, wherever it stands". */
    private static void numbersWrapWhereverTheyStand() {
        Check.wrongText(8, "int a[`4294967295];" + MAIN);
        Check.wrongText(10, "int main(int n) { switch (n) { case 0x80000000: `case -2147483648: } }");
        Check.value("enum { a = 4294967295, b }; int main(int n) { return a * 10 + b; }", 0, -10);
        Check.value("int x = 2147483648, y[1] = { 4294967294 }; int main(int n) { return (x < 0) * 100 + y[0]; }", 0, 98);
        Check.expression("4294967295 / 2 * 10 + 0xfffffff6 / 5", 0, -2);
        Check.expression("4294967295 >> 31", 0, -1);
    }

    /** "a CHARACTER between two ' (32 to 126, no ' and no \". */
    private static void everyCharacter() {
        for (int b = 0; b < 256; b++) {
            String text = "int main(int n) { return '" + (char) b + "'; }";
            if (b >= 32 && b <= 126 && b != '\'' && b != '\\') {
                Check.value(text, 0, b);
            } else {
                Check.told(text, HomeSystem.NONE, 26);
            }
        }
    }

    /** "or one of \n \0 \' \\ for 10, 0 and those". */
    private static void everyEscapedCharacter() {
        for (int b = 0; b < 256; b++) {
            String text = "int main(int n) { return '\\" + (char) b + "'; }";
            if (b == 'n' || b == '0' || b == '\'' || b == '\\') {
                Check.value(text, 0, b == 'n' ? 10 : b == '0' ? 0 : b);
            } else {
                Check.told(text, HomeSystem.NONE, 26);
            }
        }
        Check.none("int main(int n) { return `'\\00'; }");
        Check.none("int main(int n) { return `'\\n '; }");
    }

    private static void charactersWithoutAnEnd() {
        Check.none("int main(int n) { return `''; }");
        Check.none("int main(int n) { return `'''; }");
        Check.none("int main(int n) { return `'a; }");
        Check.none("int main(int n) { return `'aa'; }");
        Check.none("int main(int n) { return `'");
        Check.none("int main(int n) { return `'a");
        Check.none("int main(int n) { return `'\\");
        Check.none("int main(int n) { return `'\\n");
        Check.none("int main(int n) { return `'\\'");
        // one is a number wherever a number may stand
        Check.value("int a['\\n'] = { 'b' }; enum { e = 'c' }; int main(int n) { switch (n) { case 'd': return len(a) + a[0] + e; } }", 'd', 10 + 'b' + 'c');
        Check.wrongText(8, "int a[`'\\0'];" + MAIN);
        Check.none("int main(int n) { return 'a'`'b'; }");
    }

    /** "STRINGS between two " (32 to 126, no " and no \". */
    private static void everyByteOfStrings() {
        for (int b = 0; b < 256; b++) {
            String text = "char s[4] = \"a" + (char) b + "c\"; int main(int n) { return s[1] * 1000 + s[2]; }";
            if (b >= 32 && b <= 126 && b != '"' && b != '\\') {
                Check.value(text, 0, b * 1000 + 'c');
            } else if (b == '"') {
                Check.told(text, HomeSystem.NONE, 16);
            } else {
                Check.told(text, HomeSystem.NONE, 13);
            }
        }
    }

    /** "or one of \n \0 \" \\, which is one". */
    private static void everyEscapedByteOfStrings() {
        for (int b = 0; b < 256; b++) {
            String text = "char s[3] = \"\\" + (char) b + "c\"; int main(int n) { return s[0] * 1000 + s[1]; }";
            if (b == 'n' || b == '0' || b == '"' || b == '\\') {
                Check.value(text, 0, (b == 'n' ? 10 : b == '0' ? 0 : b) * 1000 + 'c');
            } else {
                Check.told(text, HomeSystem.NONE, 13);
            }
        }
    }

    /** "at most 200 of these". */
    private static void lengthsOfStrings() {
        int[] lengths = {0, 1, 2, 199, 200, 201, 202, 1000};
        String[] each = {"x", "\\n", "\\\\"};
        int[] values = {'x', 10, '\\'};
        for (int i = 0; i < lengths.length; i++) {
            for (int k = 0; k < each.length && lengths[i] * each[k].length() < 1900; k++) {
                String text = "char s[2001] = \"" + Check.times(each[k], lengths[i]) + "\"; int main(int n) { return s[" + lengths[i]
                        + "] * 1000 + s[" + Math.max(0, lengths[i] - 1) + "]; }";
                if (lengths[i] <= 200) {
                    Check.value(text, 0, lengths[i] == 0 ? 0 : values[k]);
                } else {
                    Check.told(text, HomeSystem.NONE, 16);
                }
            }
        }
        // many strings, each as long as it may be
        String longest = "\"" + Check.times("x", 200) + "\"";
        Check.value("char a[201] = " + longest + ", b[201] = " + longest + ", c[201] = " + longest + ", d[201] = " + longest
                + "; int main(int n) { char e[201] = " + longest + ", f[201] = " + longest + "; return a[199] + b[199] + c[199] + d[199] + e[199] + f[199] + a[200] + f[200]; }",
                0, 6 * 'x');
    }

    /** Each of several strings keeps its own bytes, up to its last one. */
    private static void severalStrings() {
        Check.value("char a[4] = \"abc\", b[1] = \"\", c[6] = \"defgh\", d[2] = \"i\", e[3] = \"jk\"; int h(char s[]) { int x = len(s); for (int i = 0; i < len(s); i++) x = x * 31 + s[i]; return x; } "
                + "int main(int n) { return h(a) + h(b) * 3 + h(c) * 5 + h(d) * 7 + h(e) * 11; }", 0,
                hash("abc") + hash("") * 3 + hash("defgh") * 5 + hash("i") * 7 + hash("jk") * 11);
        Check.value("int h(char s[]) { int x = len(s); for (int i = 0; i < len(s); i++) x = x * 31 + s[i]; return x; } "
                + "int main(int n) { char a[4] = \"abc\", b[1] = \"\", c[6] = \"defgh\", d[2] = \"i\", e[3] = \"jk\"; return h(a) + h(b) * 3 + h(c) * 5 + h(d) * 7 + h(e) * 11; }", 0,
                hash("abc") + hash("") * 3 + hash("defgh") * 5 + hash("i") * 7 + hash("jk") * 11);
    }

    private static int hash(String string) {
        int x = string.length() + 1;
        for (int i = 0; i < string.length(); i++) {
            x = x * 31 + string.charAt(i);
        }
        return x * 31;
    }

    private static void stringsWithoutAnEnd() {
        Check.none("char s[9] = `\"");
        Check.none("char s[9] = `\"ab");
        Check.none("char s[9] = `\"ab\\");
        Check.none("char s[9] = `\"ab\\\"");
        Check.none("char s[9] = `\"ab\n\";");
        Check.none("char s[9] = `\"ab;" + MAIN);
        Check.none("char s[9] = \"ab\"`\"cd\";" + MAIN);
        Check.told("char s[9] = \"ab\";" + MAIN, 0, 0);
        // where no string may stand it is one token all the same
        Check.none("int main(int n) { return `\"a\"; }");
        Check.none("int main(int n) { put(`\"\"); }");
        Check.none("int a[`\"a\"];");
        Check.none("char s[3] = { `\"a\" };");
    }

    /** "marks ..., the longest that can be taken". */
    private static void longestMarks() {
        Check.expression("n+++1", 3, 4);
        Check.expression("n---1", 3, 2);
        Check.expression("n+ ++n", 3, 7);
        Check.expression("n- - -n", 3, 0);
        Check.expression("n<<1<2", 0, 1);
        Check.expression("n>>1>=0", 4, 1);
        Check.expression("n>>=1", 4, 2);
        Check.expression("n<<=1", 4, 8);
        Check.expression("n<=4==1", 4, 1);
        Check.expression("n>=5!=1", 4, 1);
        Check.expression("n&&1&1", 4, 1);
        Check.expression("n|0||0", 0, 0);
        Check.expression("n|=3", 4, 7);
        Check.expression("n&=6", 5, 4);
        Check.expression("n^=6", 5, 3);
        Check.expression("n%=3", 5, 2);
        Check.expression("n/=2", 5, 2);
        Check.expression("n*=2", 5, 10);
        Check.expression("n-=2", 5, 3);
        Check.expression("n+=2", 5, 7);
        Check.expression("!n!=1", 5, 1);
        Check.expression("n=-2", 5, -2);
        Check.expression("~-n", 5, 4);
    }

    private static void marksThatAreNone() {
        Check.none("int main(int n) { n++`++; }");
        Check.none("int main(int n) { ++`; }");
        Check.none("int main(int n) { n+++`; }");
        Check.wrongText(6, "int main(int n) { `n +++= 1; }");
        Check.none("int main(int n) { n > `>= 1; }");
        Check.none("int main(int n) { n >>=`= 1; }");
        Check.none("int main(int n) { n >>`> 1; }");
        Check.none("int main(int n) { n <<`< 1; }");
        Check.none("int main(int n) { n < `< 1; }");
        Check.none("int main(int n) { n &&`& 1; }");
        Check.none("int main(int n) { n & `& 1; }");
        Check.none("int main(int n) { n ||`| 1; }");
        Check.none("int main(int n) { n ||`= 1; }");
        Check.none("int main(int n) { n `! = 1; }");
        Check.none("int main(int n) { n !=`= 1; }");
        Check.none("int main(int n) { n * `*= 1; }");
        Check.none("int main(int n) { n ^`^ 1; }");
        Check.none("int main(int n) { n %`% 1; }");
        Check.none("int main(int n) { n =`> 1; }");
        Check.none("int main(int n) { n ?`? 1; }");
        Check.none("int main(int n) { n `: 1; }");
        Check.none("int main(int n) { n = `= 1; }");
        Check.none("int main(int n) { n -`> n; }");
        Check.none("int main(int n) { n <`> n; }");
    }
}
