/** The edges of RUNNING, of WORK and of STACK: wraps, indices, divisions by 0, and meters that just suffice. */
public final class EdgeRunningTest {
    private static final int LOW = Integer.MIN_VALUE, HIGH = Integer.MAX_VALUE;

    public static void main(String[] args) {
        wraps();
        comparing();
        logic();
        shifts();
        divisions();
        divisionsByZero();
        charsLoseBits();
        charsOfElements();
        indices();
        indicesAreSeenLast();
        operandsFromTheLeft();
        allElseFromTheLeft();
        handedOn();
        neighboursStay();
        beginnings();
        switches();
        endsWithoutReturn();
        workThatJustSuffices();
        workOfEachCall();
        mostWork();
        stackThatJustSuffices();
        stackIsTakenBehindWork();
        stackOfOpenCalls();
        stackIsGivenBackExactly();
        framesOfArrays();
        statementsWithinExpressions();
        callsAndTheirVariables();
        runsThatEndAmidCalls();
        Check.end("EdgeRunningTest");
    }

    /** "int is 32 bits with a sign, wrapping". */
    private static void wraps() {
        Check.expression("n + 0", HIGH, HIGH);
        Check.expression("n + 1", HIGH, LOW);
        Check.expression("n + n", HIGH, -2);
        Check.expression("n - 1", LOW, HIGH);
        Check.expression("n - 0", LOW, LOW);
        Check.expression("-n", LOW, LOW);
        Check.expression("-n", HIGH, -HIGH);
        Check.expression("~n", LOW, HIGH);
        Check.expression("n * n", 46340, 2147395600);
        Check.expression("n * n", 46341, -2147479015);
        Check.expression("n * n", 65536, 0);
        Check.expression("n * -1", LOW, LOW);
        Check.expression("n * 2", LOW, 0);
        Check.expression("++n", HIGH, LOW);
        Check.expression("--n", LOW, HIGH);
        Check.expression("n++ == 2147483647 && n == -2147483647 - 1", HIGH, 1);
        Check.expression("n-- < 0 && n > 0", LOW, 1);
        Check.expression("n += 1", HIGH, LOW);
        Check.expression("n -= 1", LOW, HIGH);
        Check.expression("n *= 3", HIGH, HIGH - 2);
        Check.expression("n <<= 1", 0x40000001, LOW + 2);
    }

    /** "Comparing gives 1 or 0". */
    private static void comparing() {
        int[] numbers = {LOW, LOW + 1, -1, 0, 1, HIGH - 1, HIGH};
        String all = "(n < m) + (n > m) * 10 + (n <= m) * 100 + (n >= m) * 1000 + (n == m) * 10000 + (n != m) * 100000";
        for (int i = 0; i < numbers.length; i++) {
            for (int k = 0; k < numbers.length; k++) {
                int a = numbers[i];
                int b = numbers[k];
                int want = (a < b ? 100101 : 0) + (a > b ? 101010 : 0) + (a == b ? 11100 : 0);
                Check.value("int main(int n) { int m = " + (b & 0xffffffffL) + "; return " + all + "; }", a, want);
            }
        }
    }

    /** "so do !, && and ||, which do not go on to what can't change the answer; ? goes to one of both alone". */
    private static void logic() {
        int[] numbers = {LOW, -1, 0, 1, 2, 256, HIGH};
        for (int i = 0; i < numbers.length; i++) {
            int n = numbers[i];
            int truth = n == 0 ? 0 : 1;
            Check.expression("!n", n, 1 - truth);
            Check.expression("!!n", n, truth);
            Check.expression("n && n", n, truth);
            Check.expression("n || n", n, truth);
            Check.expression("5 && n", n, truth);
            Check.expression("0 || n", n, truth);
            Check.expression("n ? 7 : 8", n, 8 - truth);
            Check.outcome("int main(int n) { return n && 1 / 0; }", n, 9, 99, truth == 1 ? HomeSystem.ZERO : HomeSystem.DONE);
            Check.outcome("int main(int n) { return n || 1 / 0; }", n, 9, 99, truth == 0 ? HomeSystem.ZERO : HomeSystem.DONE);
            Check.outcome("int main(int n) { return n ? 1 / 0 : 3; }", n, 9, 99, truth == 1 ? HomeSystem.ZERO : HomeSystem.DONE);
            Check.outcome("int main(int n) { return n ? 3 : 1 / 0; }", n, 9, 99, truth == 0 ? HomeSystem.ZERO : HomeSystem.DONE);
            Check.outcome("int main(int n) { if (n) return 1 / 0; }", n, 9, 99, truth == 1 ? HomeSystem.ZERO : HomeSystem.DONE);
            Check.outcome("int main(int n) { while (n) return 1 / 0; }", n, 9, 99, truth == 1 ? HomeSystem.ZERO : HomeSystem.DONE);
        }
        Check.value("int main(int n) { int s = 0; n && (s = 1); n || (s = 2); return s * 10 + n; }", 0, 20);
        Check.value("int main(int n) { int s = 0; 0 && (s = 1) && (s = 2); 1 || (s = 3) || (s = 4); return s; }", 0, 0);
        Check.value("int main(int n) { int s = 0; n ? (s = 1) : (s = 2); return s; }", 0, 2);
    }

    /** "<< and >> take the lowest five bits of the right one, >> keeps the sign". */
    private static void shifts() {
        int[] counts = {LOW, -33, -32, -31, -1, 0, 1, 30, 31, 32, 33, 63, 64, HIGH};
        int[] numbers = {LOW, -1, 0, 1, 0x12345678, HIGH};
        for (int i = 0; i < counts.length; i++) {
            for (int k = 0; k < numbers.length; k++) {
                String m = "int main(int n) { int m = " + (counts[i] & 0xffffffffL) + "; ";
                Check.value(m + "return n << m; }", numbers[k], numbers[k] << (counts[i] & 31));
                Check.value(m + "return n >> m; }", numbers[k], numbers[k] >> (counts[i] & 31));
                Check.value(m + "n <<= m; return n; }", numbers[k], numbers[k] << (counts[i] & 31));
                Check.value(m + "n >>= m; return n; }", numbers[k], numbers[k] >> (counts[i] & 31));
            }
        }
        Check.value("enum { a = 1 << 33, b = -8 >> 33, c = 1 << -1 }; int main(int n) { return (a == 2) + (b == -4) * 10 + (c == -2147483648) * 100; }", 0, 111);
    }

    /** "/ is towards 0, % has the sign of the left one. (-2 to the 31 / -1 is that again, % is 0.)" */
    private static void divisions() {
        int[][] pairs = {{7, 2}, {-7, 2}, {7, -2}, {-7, -2}, {1, 2}, {-1, 2}, {0, -5}, {LOW, -1}, {LOW, 1}, {LOW + 1, -1}, {LOW, 2}, {LOW, LOW}, {HIGH, LOW}, {LOW, HIGH}};
        for (int i = 0; i < pairs.length; i++) {
            int a = pairs[i][0];
            int b = pairs[i][1];
            int quotient = (int) ((long) a / (long) b);
            int rest = (int) ((long) a % (long) b);
            String m = "int main(int n) { int m = " + (b & 0xffffffffL) + "; ";
            Check.value(m + "return n / m; }", a, quotient);
            Check.value(m + "return n % m; }", a, rest);
            Check.value(m + "return n /= m; }", a, quotient);
            Check.value(m + "return n %= m; }", a, rest);
            String k = (a & 0xffffffffL) + " / " + (b & 0xffffffffL);
            Check.value("int x = " + k + ", y = " + k.replace('/', '%') + "; int main(int n) { return n ? x : y; }", 1, quotient);
            Check.value("int x = " + k + ", y = " + k.replace('/', '%') + "; int main(int n) { return n ? x : y; }", 0, rest);
        }
    }

    /** "By 0: ZERO." */
    private static void divisionsByZero() {
        String[] bodies = {"return 1 / n;", "return 1 % n;", "n /= n;", "int x = 5; x /= n;", "int x = 5; x %= n;", "a[1] /= n;", "a[1] %= n;", "c /= n;", "d[1] %= n;",
            "put(1 / n);", "if (1 / n) ;", "while (0 / n) ;", "switch (0 / n) { }", "return 0 / n;", "1 / n;", "a[1 / n] = 3;", "f(1 / n);", "for (1 % n;;) ;"};
        for (int i = 0; i < bodies.length; i++) {
            HomeSystem system = new HomeSystem();
            Check.right(system, 0, "int a[2]; char c, d[2]; int f(int x) { put(8); return x; } int main(int n) { put(7); " + bodies[i] + " put(9); end(4); }");
            Check.due(bodies[i] + " by 0", system.run(0, 0, 20, 99), HomeSystem.ZERO);
            Check.due("value", system.value(0), 0);
            Check.paper("what was written until then stays: " + bodies[i], system, 0, 7);
            Check.due(bodies[i] + " by 1", system.run(0, 1, 20, 99) == HomeSystem.ZERO ? 1 : 0, 0);
            Check.due(bodies[i] + " by -1", system.run(0, -1, 20, 99) == HomeSystem.ZERO ? 1 : 0, 0);
        }
    }

    /** "char 0 .. 255: what is assigned to it ... loses all but its lowest eight bits (and has that value then)". */
    private static void charsLoseBits() {
        int[] numbers = {LOW, -257, -256, -255, -1, 0, 1, 127, 128, 254, 255, 256, 257, 511, 512, HIGH};
        for (int i = 0; i < numbers.length; i++) {
            int n = numbers[i];
            int low = n & 255;
            String k = Long.toString(n & 0xffffffffL);
            Check.value("int main(int n) { char c; int v = c = n; return v * 1000 + c; }", n, low * 1001);
            Check.value("int main(int n) { char c = n; return c; }", n, low);
            Check.value("char c = " + k + "; int main(int n) { return c; }", n, low);
            Check.value("char c; int main(int n) { c = n; return c; }", n, low);
            Check.value("int f(char c) { return c; } int main(int n) { return f(n); }", n, low);
            Check.value("int f(int x, char c, int y) { return x == y ? c : -1; } int main(int n) { return f(n, n, n); }", n, low);
            Check.value("char f(int n) { return n; } int main(int n) { return f(n); }", n, low);
            Check.value("int main(int n) { char c[2] = { 1, " + k + " }; return c[1]; }", n, low);
            Check.value("char c[2] = { 1, " + k + " }; int main(int n) { return c[1]; }", n, low);
            Check.value("int main(int n) { char c = 1; int v = c += n; return v * 1000 + c; }", n, (n + 1 & 255) * 1001);
            Check.value("int main(int n) { char c = n; int v = c++; return v * 1000 + c; }", n, low * 1000 + (low + 1 & 255));
            Check.value("int main(int n) { char c = n; int v = ++c; return v * 1000 + c; }", n, (low + 1 & 255) * 1001);
            Check.value("int main(int n) { char c = n; int v = c--; return v * 1000 + c; }", n, low * 1000 + (low - 1 & 255));
            Check.value("int main(int n) { char c = n; int v = --c; return v * 1000 + c; }", n, (low - 1 & 255) * 1001);
            Check.value("int main(int n) { char c = 255; return c & n; }", n, low);
            Check.value("int main(int n) { char c = n; return -c; }", n, -low);
            Check.value("int main(int n) { char c = n; return ~c; }", n, ~low);
        }
        Check.value("int main(int n) { char c = 3; return (c -= 4) + (c *= 2) * 1000 + (c <<= 7) * 1000000; }", 0, 255 + 254000);
        Check.value("int main(int n) { char c = 128; return (c >>= 7) * 1000 + (c |= 768) * 100 + (c ^= 511); }", 0, 1000 + 100 + 254);
    }

    private static void charsOfElements() {
        String[] arrays = {"char c[%]; int main(int n) { ", "int main(int n) { char c[%]; ", "char c0[%]; int main(int n) { return f(c0, n); } int f(char c[], int n) { ",
            "int f(char c[], int n) { return g(c, n); } int main(int n) { char c[%]; return f(c, n); } int g(char c[], int n) { "};
        for (int a = 0; a < arrays.length; a++) {
            for (int size = 1; size < 10; size += 2) {
                for (int at = 0; at < size; at++) {
                    String start = arrays[a].replace("%", Integer.toString(size));
                    String count = " int s = 0; for (int i = 0; i < len(c); i++) s += c[i]; return s * 1000 + c[" + at + "]; }";
                    Check.value(start + "c[" + at + "] = n;" + count, -1, 255255);
                    Check.value(start + "c[" + at + "] = 256;" + count, 0, 0);
                    Check.value(start + "c[" + at + "]--;" + count, 0, 255255);
                    Check.value(start + "c[" + at + "] = 255; c[" + at + "]++;" + count, 0, 0);
                    Check.value(start + "c[" + at + "] += 300;" + count, 0, 44044);
                }
            }
        }
    }

    /** What can be done with an element, and what that gives where the index is right and the element 5. */
    private static final String[] USES = {"return a[n];", "a[n] = 5; return 5;", "a[n] += 0; return 5;", "a[n]++; return 5;", "--a[n]; return 5;", "a[n]; return 5;",
        "put(a[n]); return 5;", "return 1 ? a[n] : 0;", "if (a[n]) return 5;", "int x = a[n]; return x;", "a[n] %= 9; return 5;", "return 0 || a[n] ? 5 : 0;"};

    /** "An index that is not 0 .. len - 1: OUT, when the element is read or written." */
    private static void indices() {
        String[] types = {"int", "char"};
        int[] sizes = {1, 3, 4, 5};
        for (int t = 0; t < 2; t++) {
            for (int s = 0; s < sizes.length; s++) {
                int size = sizes[s];
                String list = "{ 5" + Check.times(", 5", size - 1) + " }";
                String declared = types[t] + " a[" + size + "] = " + list + "; ";
                String[] starts = {declared + "int main(int n) { ", "int b[9]; int main(int n) { int b[2]; " + declared + "int c[9]; ",
                    declared.replace(" a[", " b[") + "int main(int n) { return f(b, n); } int f(" + types[t] + " a[], int n) { "};
                for (int k = 0; k < starts.length; k++) {
                    for (int u = 0; u < USES.length; u++) {
                        index(starts[k] + USES[u] + " }", size);
                    }
                }
            }
        }
        index("int a[4096] = { 5 }; int main(int n) { a[4095] = 5; " + USES[0] + " }", 4096);
        index("char a[4096] = { 5 }; int main(int n) { a[4095] = 5; " + USES[0] + " }", 4096);
    }

    private static void index(String text, int size) {
        HomeSystem system = new HomeSystem();
        Check.right(system, 0, text);
        int[] right = {0, size - 1};
        for (int i = 0; i < right.length; i++) {
            Check.due("index " + right[i] + " of " + text, system.run(0, right[i], 20, 200), HomeSystem.DONE);
            Check.due("value", system.value(0), 5);
        }
        int[] wrong = {-1, size, size + 1, -size, LOW, HIGH, LOW + 1};
        for (int i = 0; i < wrong.length; i++) {
            Check.due("index " + wrong[i] + " of " + text, system.run(0, wrong[i], 20, 200), HomeSystem.OUT);
            Check.due("value", system.value(0), 0);
        }
    }

    /** "first the index, if x is an element, then e; then x is looked up, read (if a is not = alone), and written". */
    private static void indicesAreSeenLast() {
        String start = "int a[2]; int f(int x) { put(x); return x; } int main(int n) { ";
        String[] bodies = {"a[f(2)] = f(8);", "a[f(2)] += f(8);", "a[f(-1)] /= f(0);", "a[f(2)] = 1 / f(0);", "a[f(1)] /= f(0);", "f(1) + a[f(2)] + f(3);",
            "a[f(2)]++;", "a[a[f(2)]] = f(3);", "a[f(0)] = a[f(2)];"};
        int[] outcomes = {HomeSystem.OUT, HomeSystem.OUT, HomeSystem.OUT, HomeSystem.ZERO, HomeSystem.ZERO, HomeSystem.OUT, HomeSystem.OUT, HomeSystem.OUT, HomeSystem.OUT};
        int[][] papers = {{2, 8}, {2, 8}, {-1, 0}, {2, 0}, {1, 0}, {1, 2}, {2}, {2}, {0, 2}};
        for (int i = 0; i < bodies.length; i++) {
            HomeSystem system = new HomeSystem();
            Check.right(system, 0, start + bodies[i] + " put(9); }");
            Check.due(bodies[i], system.run(0, 0, 30, 99), outcomes[i]);
            Check.paper(bodies[i], system, 0, papers[i]);
        }
        // x is looked up behind e, so that what e does to it counts
        Check.value("int x = 3; int f() { x = 10; return 1; } int main(int n) { x += f(); return x; }", 0, 11);
        Check.value("int a[2] = { 3 }; int f() { a[0] = 10; return 1; } int main(int n) { a[0] -= f(); return a[0]; }", 0, 9);
        Check.value("int i, a[3]; int f() { i = 2; return 7; } int main(int n) { a[i] = f(); return a[0] * 10 + a[2]; }", 0, 70);
    }

    private static final String[] BETWEEN = {"||", "&&", "|", "^", "&", "==", "!=", "<", ">", "<=", ">=", "<<", ">>", "+", "-", "*", "/", "%"};

    private static int between(int i, int a, int b) {
        int[] all = {a != 0 || b != 0 ? 1 : 0, a != 0 && b != 0 ? 1 : 0, a | b, a ^ b, a & b, a == b ? 1 : 0, a != b ? 1 : 0, a < b ? 1 : 0, a > b ? 1 : 0,
            a <= b ? 1 : 0, a >= b ? 1 : 0, a << b, a >> b, a + b, a - b, a * b, a / b, a % b};
        return all[i];
    }

    /** "All is done from the left: operands": the left one is read before the right one changes it. */
    private static void operandsFromTheLeft() {
        for (int i = 0; i < BETWEEN.length; i++) {
            String operator = " " + BETWEEN[i] + " ";
            Check.expression("n" + operator + "(n = 3)", 7, between(i, 7, 3));
            Check.expression("n" + operator + "n++", 7, between(i, 7, 7));
            Check.expression("n" + operator + "--n", 7, between(i, 7, 6));
            Check.expression("n++" + operator + "n", 7, between(i, 7, 8));
            Check.expression("(n = 9)" + operator + "n", 7, between(i, 9, 9));
            Check.expression("(n = 2)" + operator + "(n += 3)", 7, between(i, 2, 5));
            Check.value("int g = 7; int f() { g = 3; return 2; } int main(int n) { return g" + operator + "f(); }", 0, between(i, 7, 2));
            Check.value("int g = 7; int f() { g = 3; return 2; } int main(int n) { return f()" + operator + "g; }", 0, between(i, 2, 3));
            Check.value("int main(int n) { int b[2] = { 7, 5 }; return b[n]" + operator + "(b[n] = 3); }", 0, between(i, 7, 3));
            Check.value("char b[2] = { 7, 5 }; int main(int n) { return b[n]" + operator + "b[++n]; }", 0, between(i, 7, 5));
            Check.value("int f(int b[]) { return b[0]" + operator + "(b[0] = 3); } int main(int n) { int b[2] = { 7, 5 }; return f(b); }", 0, between(i, 7, 3));
            told("p(6)" + operator + "p(2)", BETWEEN[i].equals("||") ? "6" : "6 2");
        }
    }

    /** In which order p, which writes its number and gives it, is called. */
    private static void told(String statement, String want) {
        HomeSystem system = new HomeSystem();
        Check.right(system, 0, "int b[9]; int p(int x) { put(x); return x; } int f(int x, int y, int z) { return x; } int main(int n) { int c[9]; " + statement + "; }");
        Check.right(system, 1, "int main(int n) { more(0); }");
        Check.due(statement, system.run(0, 0, 50, 99), HomeSystem.DONE);
        String[] numbers = want.split(" ");
        int[] due = new int[numbers.length];
        for (int i = 0; i < due.length; i++) {
            due[i] = Integer.parseInt(numbers[i]);
        }
        Check.paper(statement, system, 0, due);
    }

    /** "arguments", and the parts of all else. */
    private static void allElseFromTheLeft() {
        told("f(p(1), p(2), p(3))", "1 2 3");
        told("f(f(p(1), p(2), p(3)), p(4), f(p(5), p(6), p(7)))", "1 2 3 4 5 6 7");
        told("p(1) + p(2) * p(3) - (p(4) + p(5))", "1 2 3 4 5");
        told("p(1) < p(2) == p(3) << p(4)", "1 2 3 4");
        told("p(0) ? p(1) : p(2)", "0 2");
        told("p(5) ? p(1) : p(2)", "5 1");
        told("b[p(1)] = p(2)", "1 2");
        told("b[p(1)] += p(2)", "1 2");
        told("c[p(1)] = b[p(2)] = p(3)", "1 2 3");
        told("b[p(1)] + c[p(2)]", "1 2");
        told("int x = p(1), y = p(2)", "1 2");
        told("int x = p(1), y[2] = { 3 }, z = p(y[0])", "1 3");
        told("spawn(p(1), p(2)); send(p(1), p(3)); spawn(p(7), p(5))", "1 2 1 3 7 5");
        told("for (p(1); p(0); p(2)) p(3)", "1 0");
        told("for (int i = p(1); i < p(3); i += p(1)) p(8)", "1 3 8 1 3 8 1 3");
        told("while (p(0)) p(1)", "0");
        told("do p(1); while (p(0))", "1 0");
        told("if (p(1)) p(2); else p(3)", "1 2");
        told("switch (p(2)) { case 1: p(7); case 2: p(8); default: p(9); }", "2 8 9");
        Check.value("int f(int a, int b, int c, int d) { return a * 1000 + b * 100 + c * 10 + d; } int main(int n) { return f(n, n = 3, n++, n); }", 7, 7334);
        Check.value("int f(int a[], int b, int c) { return a[0] * 100 + b * 10 + c; } int main(int n) { int x[1]; return f(x, x[0]++, x[0] = 5); }", 7, 505);
    }

    /** "An array is handed on itself; len is its size." */
    private static void handedOn() {
        int[] sizes = {1, 2, 16, 17, 400};
        for (int i = 0; i < sizes.length; i++) {
            String size = Integer.toString(sizes[i]);
            Check.value("int f(int a[]) { return len(a); } int g(int a[]) { return f(a); } int main(int n) { int a[" + size + "]; return g(a); }", 0, sizes[i]);
            Check.value("char a[" + size + "]; int f(char a[]) { return len((a)); } int main(int n) { return f(a); }", 0, sizes[i]);
        }
        Check.value("int f(int a[], int b[]) { a[0] = 4; return b[0]; } int a[1]; int main(int n) { return f(a, a); }", 0, 4);
        Check.value("int f(int d, int a[]) { int b[1]; a[0] += 1; return d ? f(d - 1, b) + f(d - 1, a) : a[0]; } int main(int n) { int a[1]; return f(2, a); }", 0, 7);
    }

    private static void neighboursStay() {
        Check.value("int x = 1, a[2], y = 2; char c = 3, d[3], e = 4; int main(int n) { a[0] = a[1] = -1; d[0] = d[1] = d[2] = -1; return x + y * 10 + c * 100 + e * 1000; }", 0, 4321);
        Check.value("int main(int n) { int x = 1, a[2], y = 2; char c = 3, d[3], e = 4; a[0] = a[1] = -1; d[0] = d[1] = d[2] = -1; return x + y * 10 + c * 100 + e * 1000; }", 0, 4321);
        Check.value("int f(int p, char q, int r[], char s[], int t) { s[0] = r[0] = -1; return p + q * 10 + t * 100; } int main(int n) { int r[1]; char s[1]; return f(1, 2, r, s, 3); }", 0, 321);
    }

    /** "0 where nothing is given; those of a call are all 0 when it begins". */
    private static void beginnings() {
        String used = "int x, a[3]; char c, d[5]; ";
        String sum = "x + a[0] + a[1] + a[2] + c + d[0] + d[1] + d[4]";
        String dirty = " x = a[0] = a[1] = a[2] = c = d[0] = d[1] = d[4] = 9; ";
        Check.value(used + "int main(int n) { return " + sum + "; }", 0, 0);
        Check.value("int main(int n) { " + used + "return " + sum + "; }", 0, 0);
        Check.value("int f() { " + used + "int s = " + sum + ";" + dirty + "return s; } int main(int n) { return f() + f(); }", 0, 0);
        Check.value("int f() { int z[30]; for (int i = 0; i < 30; i++) z[i] = 7; return 0; } int g() { if (0) { " + used + " } switch (1) { case 0: " + used
                + " case 1: return " + sum + "; } } int main(int n) { f(); return g(); }", 0, 0);
        Check.value("int main(int n) { int s = 0; for (int i = 0; i < 3; i++) { " + used + "s += " + sum + ";" + dirty + "} return s; }", 0, 0);
        Check.value("int main(int n) { int s = 0; for (int i = 0; i < 3; i++) { int a[3] = { 1 }; char d[3] = \"b\"; s += a[0] + a[1] + a[2] + d[0] + d[1] + d[2]; "
                + "a[0] = a[1] = a[2] = d[0] = d[1] = d[2] = 9; } return s; }", 0, 3 * (1 + 'b'));
    }

    private static void switches() {
        int[] numbers = {LOW, -1, 0, 1, HIGH};
        int[] wants = {1, 2, 3, 9, 4};
        for (int i = 0; i < numbers.length; i++) {
            Check.value("int main(int n) { switch (n) { case 2147483648: return 1; case -1: return 2; case 0: return 3; default: return 9; case 2147483647: return 4; } }",
                    numbers[i], wants[i]);
        }
        Check.value("int main(int n) { switch (n) { } return 5; }", 0, 5);
        Check.value("int main(int n) { switch (n) { default: } return 5; }", 0, 5);
        Check.value("int main(int n) { switch (n) { case 0: } return 5; }", 0, 5);
        Check.value("int main(int n) { int s = 0; switch (n) { case 0: s += 1; case 1: s += 10; default: s += 100; case 2: s += 1000; } return s; }", 0, 1111);
        Check.value("int main(int n) { int s = 0; switch (n) { case 0: s += 1; case 1: s += 10; default: s += 100; case 2: s += 1000; } return s; }", 2, 1000);
        Check.value("int main(int n) { int s = 0; switch (n) { case 0: s += 1; case 1: s += 10; default: s += 100; case 2: s += 1000; } return s; }", 3, 1100);
        Check.value("int main(int n) { char c = n; switch (c) { case 255: return 1; case -1: return 2; } return 3; }", -1, 1);
    }

    /** "A function that ends without return gives 0, one of char its number's lowest eight bits." */
    private static void endsWithoutReturn() {
        Check.value("int main(int n) { }", 7, 0);
        Check.value("int main(int n) { if (n) return 4; }", 0, 0);
        Check.value("int f(int x) { x; } char g(int x) { x; } int main(int n) { return f(3) + g(4) + 5; }", 0, 5);
        Check.value("int f(int x) { 1 + 2; x + 3; } int main(int n) { return 10 + f(3) * 2; }", 0, 10);
        Check.value("void f(int x) { if (x) return; x = 1; } int main(int n) { f(0); f(1); return 1 + 1; }", 0, 2);
    }

    /** DONE with just so much work, WORN with 1 less, DONE with 1 more. */
    private static void needs(String body, int want) {
        String text = "int f(int x) { return x; } int r(int x) { return x ? r(x - 1) : 0; } int a[2]; int main(int n) { " + body + " }";
        Check.outcome(text, 0, want - 1, 512, HomeSystem.WORN);
        Check.outcome(text, 0, want, 512, HomeSystem.DONE);
        Check.outcome(text, 0, want + 1, 512, HomeSystem.DONE);
    }

    /** "Each call ... and each beginning of a loop's s takes 1 of the work; when there is 0: WORN." */
    private static void workThatJustSuffices() {
        needs("", 1);
        needs("f(1);", 2);
        needs("f(f(f(1)));", 4);
        needs("r(0);", 2);
        needs("r(5);", 7);
        needs("for (int i = 0; i < 10; i++) ;", 11);
        needs("for (;;) return 1;", 2);
        needs("for (;0;) ;", 1);
        needs("int i = 0; while (i < 10) i++;", 11);
        needs("int i = 0; while (i++ < 10) continue;", 11);
        needs("while (1) break;", 2);
        needs("do ; while (0);", 2);
        needs("int i = 0; do i++; while (i < 10);", 11);
        needs("for (int i = 0; i < 3; i++) for (int k = 0; k < 3; k++) f(1);", 1 + 3 + 9 + 9);
        needs("for (int i = 0; f(i) < 3; f(i++)) ;", 1 + 3 + 4 + 3);
        needs("0 && f(1); 1 || f(1); 1 ? 1 : f(1);", 1);
        needs("len(a); a[0] = 1; n ? 1 : 2; switch (n) { case 0: n++; } if (n) ; { } int z[9];", 1);
    }

    private static void workOfEachCall() {
        needs("put(1);", 2);
        needs("spawn(7, 1);", 2);
        needs("spawn(-1, 1);", 2);
        needs("get(0, a);", 2);
        needs("set(0, a);", 2);
        // those that end the process or wait see their work first
        String[] calls = {"end(3)", "recv(9)", "send(9, 1)", "more(9)", "wait(9)", "wait(0)", "recv(0)", "get(8, a)", "set(-1, a)"};
        int[] outcomes = {HomeSystem.ENDED, HomeSystem.OUT, HomeSystem.OUT, HomeSystem.OUT, HomeSystem.OUT, HomeSystem.OUT, HomeSystem.OUT, HomeSystem.OUT, HomeSystem.OUT};
        for (int i = 0; i < calls.length; i++) {
            String text = "int a[2]; int main(int n) { " + calls[i] + "; put(1); }";
            Check.outcome(text, 0, 0, 99, HomeSystem.WORN);
            Check.outcome(text, 0, 1, 99, HomeSystem.WORN);
            Check.outcome(text, 0, 2, 99, outcomes[i]);
            Check.outcome(text, 0, 3, 99, outcomes[i]);
        }
        // "its arguments being known": what they do comes before
        Check.outcome("int main(int n) { put(1 / n); }", 0, 1, 99, HomeSystem.ZERO);
        Check.outcome("int a[1]; int main(int n) { put(a[1]); }", 0, 1, 99, HomeSystem.OUT);
        HomeSystem system = new HomeSystem();
        Check.right(system, 0, "int f(int x) { return x; } int main(int n) { put(5); put(f(6)); put(7); }");
        int[] counts = {0, 0, 1, 1, 2, 3, 3};
        for (int work = 0; work < counts.length; work++) {
            Check.due("run with " + work, system.run(0, 0, work, 99), work < 5 ? HomeSystem.WORN : HomeSystem.DONE);
            Check.due("written with " + work, system.paper(0), counts[work]);
        }
    }

    /** "work is not 0 .. 100": all of it can be used. */
    private static void mostWork() {
        Check.outcome("int main(int n) { for (int i = 0; i < 99; i++) ; }", 0, 100, 99, HomeSystem.DONE);
        Check.outcome("int main(int n) { for (int i = 0; i < 100; i++) ; }", 0, 100, 99, HomeSystem.WORN);
        Check.outcome("int main(int n) { for (int i = 0; i < 99; i++) ; }", 0, 99, 99, HomeSystem.WORN);
        HomeSystem system = new HomeSystem();
        Check.right(system, 0, "int main(int n) { for (;;) put(n++); }");
        Check.due("worn", system.run(0, 0, 100, 99), HomeSystem.WORN);
        Check.due("paper", system.paper(0), 49);
        // as many calls open at once as there is work: each has 4 words and 1 of height
        String down = "int r() { return r(); } int main(int n) { return r(); }";
        Check.outcome(down, 0, 100, 512, HomeSystem.WORN);
        Check.outcome(down, 0, 100, 6 + 99 * 5, HomeSystem.WORN);
        Check.outcome(down, 0, 100, 6 + 99 * 5 - 1, HomeSystem.DEEP);
    }

    /** "takes its frame of the stack until it ends; when that is not there: DEEP". */
    private static void stackThatJustSuffices() {
        int[] sizes = {1, 2, 100, 506, 507, 508};
        for (int i = 0; i < sizes.length; i++) {
            String text = "int main(int n) { int a[" + sizes[i] + "]; }";
            int frame = 5 + sizes[i];
            Check.outcome(text, 0, 1, Math.min(512, frame - 1), HomeSystem.DEEP);
            Check.outcome(text, 0, 1, Math.min(512, frame), frame <= 512 ? HomeSystem.DONE : HomeSystem.DEEP);
            Check.outcome(text, 0, 1, 512, frame <= 512 ? HomeSystem.DONE : HomeSystem.DEEP);
        }
        Check.outcome("int f() { int a[4096]; } int main(int n) { f(); }", 0, 9, 512, HomeSystem.DEEP);
        Check.outcome("int f() { int a[4096], b[4000]; } int main(int n) { if (n) f(); }", 0, 9, 6, HomeSystem.DONE);
        Check.outcome("int x[4096], y[4096]; int main(int n) { }", 0, 1, 5, HomeSystem.DONE);
        Check.outcome("int main(int n) { }", 0, 1, 4, HomeSystem.DEEP);
        Check.outcome("int main(int n) { }", 0, 1, 0, HomeSystem.DEEP);
    }

    private static void stackIsTakenBehindWork() {
        Check.outcome("int main(int n) { }", 0, 0, 4, HomeSystem.WORN);
        Check.outcome("int main(int n) { }", 0, 0, 0, HomeSystem.WORN);
        Check.outcome("int f() { } int main(int n) { f(); }", 0, 1, 6, HomeSystem.WORN);
        Check.outcome("int f() { } int main(int n) { f(); }", 0, 2, 6, HomeSystem.DEEP);
        Check.outcome("int f() { } int main(int n) { f(); }", 0, 2, 9, HomeSystem.DEEP);
        Check.outcome("int f() { } int main(int n) { f(); }", 0, 2, 10, HomeSystem.DONE);
        // calls of those that are there already take nothing of it
        Check.outcome("int a[1]; int main(int n) { put(len(a)); get(0, a); spawn(7, 1); }", 0, 9, 4 + 1 + 3, HomeSystem.DONE);
        Check.outcome("int a[1]; int main(int n) { put(len(a)); get(0, a); spawn(7, 1); }", 0, 9, 4 + 1 + 2, HomeSystem.DEEP);
    }

    private static void stackOfOpenCalls() {
        // f has 4 + 1 + 3, main 4 + 1 + 2
        String both = "int f(int x) { return x ? 1 + f(x - 1) : 0; } int main(int n) { return f(n) + f(n); }";
        for (int n = 0; n < 4; n++) {
            int need = 7 + (n + 1) * 8;
            Check.outcome(both, n, 50, need - 1, HomeSystem.DEEP);
            Check.outcome(both, n, 50, need, HomeSystem.DONE);
        }
        // what an argument's call took is given back before the call itself
        String inner = "int f(int x) { int a[20]; return x; } int main(int n) { return f(f(f(n))); }";
        Check.outcome(inner, 0, 9, 6 + 26, HomeSystem.DONE);
        Check.outcome(inner, 0, 9, 6 + 25, HomeSystem.DEEP);
    }

    /** "until it ends": as much as it took, whatever it called itself. */
    private static void stackIsGivenBackExactly() {
        // main has 4 + 1 + 1, g 4 + 1, f 4 + 1, big 4 + 20
        String[] before = {"", "g();", "f();", "f(); f(); g();", "for (int i = 0; i < 3; i++) { f(); }", "if (f()) g();", "v();"};
        for (int i = 0; i < before.length; i++) {
            String text = "int g() { return 1; } int f() { return g(); } void v() { g(); return; } void big() { int a[20]; } int main(int n) { " + before[i] + " big(); }";
            int main = i == 4 ? 8 : 6;
            Check.outcome(text, 0, 50, main + 24, HomeSystem.DONE);
            Check.outcome(text, 0, 50, main + 23, HomeSystem.DEEP);
        }
        // the same one level deeper
        String deeper = "int g() { return 1; } int f(int x) { g(); return x ? f(x - 1) + g() : 0; } int big() { int a[40]; } int main(int n) { f(2); f(2); return big(); }";
        Check.outcome(deeper, 0, 50, 6 + 44, HomeSystem.DONE);
        Check.outcome(deeper, 0, 50, 6 + 43, HomeSystem.DEEP);
    }

    /** What statements do, within a call within an expression, leaves the numbers that wait there as they are. */
    private static void statementsWithinExpressions() {
        String[] bodies = {"", ";", "n;", "n = 3;", "n + 1;", "switch (n) { }", "switch (n) { case 1: break; case 2: break; }", "switch (n) { case 7: case 8: case 2: n = 4; default: n = 5; }",
            "switch (n) { default: case 2: }", "switch (n) { case 0: switch (n + 1) { case 1: break; case 5: } case 2: switch (n) { } }", "v();", "w();", "(v());", "f(1, a);",
            "f(n, a) + f(n, a);", "get(0, a);", "len(a);", "for (n; 0; n) ;", "for (v(); 0; v()) ;", "for (int i = 0; i < 2; i++) ;", "while (0) ;", "do ; while (0);",
            "if (n) ; else ;", "if (n) v();", "n ? 1 : 2;", "n && 1; n || 1;", "1 && n && 2 || 0;", "a[0]; a[0]++; --a[1]; a[0] += 1;", "int x; int y = 3; int z[3] = { 1 }; char s[3] = \"a\";",
            "for (int i = 0; i < 3; i++) { if (i) continue; switch (i) { case 0: continue; } }", "for (;;) { switch (n) { default: break; } break; }",
            "while (1) { switch (n) { case 2: return 5; case 1: break; } break; }", "do { switch (n) { case 1: continue; default: } break; } while (0);", "put(n);", "spawn(9, 1);"};
        for (int i = 0; i < bodies.length; i++) {
            String text = "int a[2]; void v() { return; } void w() { } int f(int x, int y[]) { return x; } int g(int n) { " + bodies[i] + " return 5; } "
                    + "int main(int n) { return 1000 + (g(n) * 10 + g(n + 1)); }";
            for (int n = 0; n < 4; n++) {
                Check.value(text, n, 1055);
            }
        }
    }

    private static void callsAndTheirVariables() {
        Check.value("int f(int a) { int x[20]; x[0] = a; x[19] = 2 * a; return x[0] + x[19]; } int main(int n) { int s = 0; for (int i = 0; i < 40; i++) s += f(i); return s; }", 0, 2340);
        Check.value("int f(int a) { int x[20]; if (a) { x[3] = a; int y = f(a - 1); return x[3] * 10 + y % 10; } return 3; } int main(int n) { return f(n); }", 9, 93);
        Check.value("int f(int d, int a[]) { int b[3]; b[d % 3] = d; if (d) f(d - 1, b); for (int i = 0; i < 3; i++) a[i] += b[i]; return a[0] * 100 + a[1] * 10 + a[2]; } "
                + "int main(int n) { int a[3]; return f(n, a); }", 4, 352);
    }

    /** A run that ended within calls and expressions leaves nothing behind for the next one. */
    private static void runsThatEndAmidCalls() {
        String ones = Check.times("1, ", 59);
        StringBuilder parameters = new StringBuilder("int a0");
        for (int i = 1; i < 60; i++) {
            parameters.append(", int a").append(i);
        }
        HomeSystem system = new HomeSystem();
        Check.right(system, 0, "int f(" + parameters + ") { return a0 + a59; } int main(int n) { return f(" + ones + "7 / n); }");
        for (int i = 0; i < 20; i++) {
            Check.due("by 0", system.run(0, 0, 9, 512), HomeSystem.ZERO);
        }
        Check.due("behind it", system.run(0, 1, 9, 512), HomeSystem.DONE);
        Check.due("value", system.value(0), 8);
        Check.right(system, 1, "int r(int x) { return x ? 1 + r(x - 1) : 0; } int main(int n) { return r(n); }");
        for (int i = 0; i < 6; i++) {
            Check.due("worn", system.run(1, 50, 40, 512), HomeSystem.WORN);
            Check.due("deep", system.run(1, 60, 70, 300), HomeSystem.DEEP);
        }
        Check.due("behind it", system.run(1, 50, 60, 512), HomeSystem.DONE);
        Check.due("value", system.value(0), 50);
    }

    /** "its size for each other array of int, a quarter of it (rounded up) for one of char". */
    private static void framesOfArrays() {
        for (int size = 1; size < 14; size++) {
            String[] texts = {"int main(int n) { int a[" + size + "]; }", "int main(int n) { char a[" + size + "]; }",
                "int main(int n) { char a[" + size + "], b[" + size + "]; }", "int main(int n) { if (0) { char a[" + size + "]; } else { int b[" + size + "]; } }"};
            int quarter = (size + 3) / 4;
            int[] frames = {5 + size, 5 + quarter, 5 + 2 * quarter, 6 + quarter + size};
            for (int i = 0; i < texts.length; i++) {
                Check.outcome(texts[i], 0, 1, frames[i] - 1, HomeSystem.DEEP);
                Check.outcome(texts[i], 0, 1, frames[i], HomeSystem.DONE);
            }
        }
    }
}
