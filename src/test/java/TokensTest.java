/** Promises 4 and 5: what tokens there are, and where those begin that can't stand. */
public final class TokensTest {
    public static void main(String[] args) {
        blanks();
        names();
        numbers();
        characters();
        strings();
        marks();
        Check.end("TokensTest");
    }

    private static void blanks() {
        Check.value("\tint\r\nmain ( int\nn ) { return/**/n// to the end\n+ 1 ; } // and no end", 4, 5);
        Check.value("int main(int n) { return /* * / ** // */ n /***/ + /*/*/ 2; }", 4, 6);
        Check.value("int main(int n) { return n - -1 + + 1; }//", 4, 6);
        Check.value("int main(int n) { return 7; }//*", 4, 7);
        Check.none("int main(int n) { return n; } `/* no end");
        Check.none("int main(int n) { return n; } `/*/");
        Check.none("int main(int n) { return n `/* *\n/ ; }");
        Check.value("int main(int n) { return n*2/1 /* c */; }", 4, 8);
        Check.none("int main(int n) {`\0 }");
        Check.none("int main(int n) { }`\0");
        Check.none("int main(int n) {`\u000b }");
        Check.none("int main(int n) { return `\u00e9; }");
    }

    private static void names() {
        String longest = "abcdefghijklmnopqrstuvwx";
        Check.value("int main(int " + longest + ") { return " + longest + "; }", 3, 3);
        Check.value("int main(int _A9z) { int ifx = 1, Int = 2, x_ = 3; return _A9z + ifx + Int + x_; }", 3, 9);
        Check.none("int main(int `" + longest + "y) { }");
        Check.none("int main(int `9a) { }");
        Check.none("int main(int `while) { }");
        Check.none("int main(int n) { int `12; }");
    }

    private static void numbers() {
        Check.expression("0000000012 + 08", 0, 20);
        Check.expression("4294967295", 0, -1);
        Check.expression("2147483648", 0, Integer.MIN_VALUE);
        Check.expression("0x0 + 0xaF + 0xFFFFFFFF", 0, 174);
        Check.expression("0x12345678 - 305419896 + 0xfA09", 0, 64009);
        Check.expression("0x0000001f", 0, 31);
        Check.none("int main(int n) { return `4294967296; }");
        Check.none("int main(int n) { return `00000000001; }");
        Check.none("int main(int n) { return `0x; }");
        Check.none("int main(int n) { return `0xg; }");
        Check.none("int main(int n) { return `0x000000001; }");
        Check.none("int main(int n) { return 0`X1; }");
        Check.none("int main(int n) { return 00`x1; }");
        Check.none("int main(int n) { return 10`x; }");
        Check.none("int main(int n) { return 0x12345678`g; }");
        Check.none("int main(int n) { return 1`.5; }");
        Check.none("int main(int n) { return 1 `2; }");
    }

    private static void characters() {
        Check.expression("' ' * 1000000 + '~' * 1000 + '\"'", 0, 32126034);
        Check.expression("'\\n' * 1000000 + '\\'' * 1000 + '\\\\' + '\\0'", 0, 10039092);
        Check.none("int main(int n) { return `''; }");
        Check.none("int main(int n) { return `'ab'; }");
        Check.none("int main(int n) { return `'\\t'; }");
        Check.none("int main(int n) { return `'\\\"'; }");
        Check.none("int main(int n) { return `'\\'; }");
        Check.none("int main(int n) { return `'''; }");
        Check.none("int main(int n) { return `'\n'; }");
        Check.none("int main(int n) { return `'\u007f'; }");
        Check.none("int main(int n) { return `'");
    }

    private static void strings() {
        Check.value("char s[9] = \"a'\\n\\0\\\"\\\\ ~\"; int main(int n) { return s[n]; }", 0, 'a');
        Check.value("char s[9] = \"a'\\n\\0\\\"\\\\ ~\"; int main(int n) { return s[1] + s[2] * 1000 + s[4] * 1000000; }", 0, 34010039);
        Check.value("char s[9] = \"a'\\n\\0\\\"\\\\ ~\"; int main(int n) { return s[3] + s[5] + s[7] * 1000 + s[8]; }", 0, 126092);
        Check.value("char s[201] = \"" + Check.times("x", 100) + Check.times("\\n", 100) + "\"; int main(int n) { return s[199]; }", 0, 10);
        Check.value("char s[1] = \"\"; int main(int n) { return s[0]; }", 0, 0);
        Check.none("char s[300] = `\"" + Check.times("x", 100) + Check.times("\\n", 101) + "\"; int main(int n) { }");
        Check.none("char s[9] = `\"ab\n\"; int main(int n) { }");
        Check.none("char s[9] = `\"\\'\"; int main(int n) { }");
        Check.none("char s[9] = `\"ab");
        Check.none("char s[9] = `\"ab\\");
        Check.none("int main(int n) { return `\"a\"; }");
    }

    private static void marks() {
        Check.expression("n+++n", 3, 7);
        Check.expression("n---n", 3, 1);
        Check.expression("n- -n", 3, 6);
        Check.expression("n<<=n>>1", 3, 6);
        Check.expression("n>>=1", 7, 3);
        Check.expression("1&&n&1", 3, 1);
        Check.expression("n^=1|4", 3, 6);
        Check.none("int main(int n) { return n++`+++n; }");
        Check.none("int main(int n) { n &&`= 1; }");
        Check.none("int main(int n) { n ==`= 1; }");
        Check.none("int main(int n) { n `~= 1; }");
        Check.none("int main(int n) { n <<=`= 1; }");
        Check.none("int main(int n) { n `@ 1; }");
        Check.none("int main(int n) { n`.x = 1; }");
        Check.none("`#define x\nint main(int n) { }");
        Check.none("int main(int n) { n -`> 1; }");
    }
}
