/** The edges of PROCESSES: children, handles, rows that are empty or full, partners that have ended, the disk's blocks. */
public final class EdgeProcessTest {
    private static final int LOW = Integer.MIN_VALUE, HIGH = Integer.MAX_VALUE;
    /** Waits for good, as no child of its sends anything. */
    private static final String SLEEPS = "spawn(7, 0); recv(1);";
    private static final String SLEEPER = "int main(int n) { recv(0); }";

    public static void main(String[] args) {
        threeChildren();
        childrenOfChildren();
        programsToSpawn();
        spawnTakesWorkAlone();
        metersOfTheirOwn();
        fourNumbersUp();
        fourNumbersDown();
        oneReadMakesRoom();
        rowsInOrder();
        sendToOneThatHasEnded();
        aFullRowWhoseReaderEnds();
        recvOfOneThatHasEnded();
        moreOfEachSort();
        valuesOfWait();
        outcomesOfWait();
        waitForOneThatWaits();
        handlesOfNobody();
        handleOfTheParent();
        endsOfProcesses();
        unreadInTheEnd();
        unreadByWhoeverIsTheParent();
        waitingTakesWorkOnce();
        sizesOfBlocks();
        numbersOfBlocks();
        blocksOfOthers();
        diskStays();
        Check.end("EdgeProcessTest");
    }

    private static HomeSystem system(String... texts) {
        HomeSystem system = new HomeSystem();
        for (int i = 0; i < texts.length; i++) {
            Check.right(system, i, texts[i]);
        }
        return system;
    }

    /** "up to three CHILDREN ... in this order". */
    private static void threeChildren() {
        for (int count = 0; count < 6; count++) {
            HomeSystem system = system("int main(int n) { for (int i = 0; i < n; i++) put(spawn(1, 40 + i)); return 5; }", "int main(int n) { put(n); return n; }");
            Check.due("run", system.run(0, count, 50, 99), HomeSystem.DONE);
            Check.due("handles", system.paper(0), count);
            for (int i = 0; i < count; i++) {
                Check.due("handle " + i + " of " + count, system.paperAt(0, i), i < 3 ? i + 1 : HomeSystem.NONE);
            }
            for (int p = 1; p < 13; p++) {
                boolean begun = p <= count && p <= 3;
                Check.due("outcome " + p + " of " + count, system.outcome(p), begun ? HomeSystem.DONE : HomeSystem.NONE);
                Check.due("value " + p + " of " + count, system.value(p), begun ? 39 + p : 0);
                Check.due("paper " + p + " of " + count, system.paper(p), begun ? 1 : 0);
            }
        }
    }

    /** "those of process p are 3 p + 1, 3 p + 2, 3 p + 3"; "4 to 12 may have none". */
    private static void childrenOfChildren() {
        HomeSystem system = system("int main(int n) { for (int i = 1; i < 5; i++) put(spawn(0, 3 * n + i)); return n; }");
        Check.due("run", system.run(0, 0, 50, 99), HomeSystem.DONE);
        for (int p = 0; p < 13; p++) {
            Check.due("outcome " + p, system.outcome(p), HomeSystem.DONE);
            Check.due("value " + p, system.value(p), p);
            int none = HomeSystem.NONE;
            if (p < 4) {
                Check.paper("handles of " + p, system, p, 1, 2, 3, none);
            } else {
                Check.paper("handles of " + p, system, p, none, none, none, none);
            }
        }
        // only the second child of the third child
        system = system("int main(int n) { if (n == 0) { spawn(1, 0); spawn(1, 0); spawn(0, 3); } else { spawn(1, 0); spawn(1, 77); } }", "int main(int n) { return n; }");
        Check.due("run", system.run(0, 0, 50, 99), HomeSystem.DONE);
        for (int p = 0; p < 13; p++) {
            Check.due("outcome " + p, system.outcome(p), p <= 3 || p == 10 || p == 11 ? HomeSystem.DONE : HomeSystem.NONE);
        }
        Check.due("value 11", system.value(11), 77);
    }

    /** "NONE (-1) when there is no such program (or it is empty)". */
    private static void programsToSpawn() {
        HomeSystem system = system("int main(int n) { put(spawn(n, 6)); put(spawn(1, 9)); return 5; }", "int main(int n) { return n; }");
        Check.due("wrong", Check.text(system, 2, "int main(int n) { return x; }"), 2);
        Check.due("none", Check.text(system, 3, "int main(int n) {"), HomeSystem.NONE);
        Check.words(system, 4, 0x73);
        Check.due("no words", system.raw(5), HomeSystem.NONE);
        Check.right(system, 7, "int main(int n) { return n + 1; }");
        int[] programs = {LOW, -2, -1, 1, 2, 3, 4, 5, 6, 7, 8, 9, 256, HIGH};
        for (int i = 0; i < programs.length; i++) {
            boolean there = programs[i] == 1 || programs[i] == 4 || programs[i] == 7;
            Check.due("run", system.run(0, programs[i], 50, 99), HomeSystem.DONE);
            Check.paper("spawn of " + programs[i], system, 0, there ? 1 : HomeSystem.NONE, there ? 2 : 1);
            Check.due("first child", system.outcome(1), HomeSystem.DONE);
            Check.due("its value", system.value(1), there ? programs[i] == 7 ? 7 : 6 : 9);
            Check.due("second child", system.outcome(2), there ? HomeSystem.DONE : HomeSystem.NONE);
        }
    }

    private static void spawnTakesWorkAlone() {
        // main and seven spawns, of which four begin nobody
        String text = "int main(int n) { spawn(9, 0); spawn(1, 0); spawn(6, 0); spawn(1, 0); spawn(1, 0); spawn(1, 0); spawn(-1, 0); return 3; }";
        for (int work = 7; work < 10; work++) {
            HomeSystem system = system(text, "int main(int n) { return 1; }");
            Check.due("run with " + work, system.run(0, 0, work, 99), work == 7 ? HomeSystem.WORN : HomeSystem.DONE);
            Check.due("third child", system.outcome(3), HomeSystem.DONE);
        }
    }

    /** "METERS, each process has its own: WORK and STACK, as run is told for all." */
    private static void metersOfTheirOwn() {
        for (int work = 0; work < 9; work++) {
            HomeSystem system = system("int main(int n) { spawn(1, 5); for (;;) ; }", "int main(int n) { while (n--) ; return 4; }");
            Check.due("parent with " + work, system.run(0, 0, work, 99), HomeSystem.WORN);
            Check.due("child with " + work, system.outcome(1), work < 2 ? HomeSystem.NONE : work < 6 ? HomeSystem.WORN : HomeSystem.DONE);
        }
        for (int stack = 9; stack < 19; stack++) {
            // main has 4 + 1 + 2 in both, f 4 + 1 + 4 words and 1 of height
            HomeSystem system = system("int main(int n) { return spawn(1, 0); }", "int f(int x) { int a[4]; return x; } int main(int n) { return f(1); }");
            Check.due("parent with " + stack, system.run(0, 0, 9, stack), HomeSystem.DONE);
            Check.due("child with " + stack, system.outcome(1), stack < 16 ? HomeSystem.DEEP : HomeSystem.DONE);
        }
    }

    /** "two ROWS, one each way, of at most four numbers"; send "waits while that is full". */
    private static void fourNumbersUp() {
        for (int count = 0; count < 7; count++) {
            HomeSystem system = system("int main(int n) { spawn(1, n); spawn(2, 0); recv(2); }", "int main(int n) { for (int i = 0; i < n; i++) { send(0, i); put(i); } return 5; }", SLEEPER);
            Check.due("parent", system.run(0, count, 50, 99), HomeSystem.WAITS);
            Check.due("child that sent " + count, system.outcome(1), count < 5 ? HomeSystem.DONE : HomeSystem.WAITS);
            Check.due("its value", system.value(1), count < 5 ? 5 : 0);
            Check.due("so many sent of " + count, system.paper(1), Math.min(4, count));
            Check.due("unread of " + count, system.unread(1, true), Math.min(4, count));
            Check.due("nothing the other way", system.unread(1, false), 0);
            Check.due("nothing of the other child", system.unread(2, true), 0);
        }
    }

    private static void fourNumbersDown() {
        for (int count = 0; count < 7; count++) {
            HomeSystem system = system("int main(int n) { spawn(1, 0); for (int i = 0; i < n; i++) { send(1, i); put(i); } return 5; }", "int main(int n) { " + SLEEPS + " }");
            Check.right(system, 7, SLEEPER);
            Check.due("parent that sent " + count, system.run(0, count, 50, 99), count < 5 ? HomeSystem.DONE : HomeSystem.WAITS);
            Check.due("so many sent of " + count, system.paper(0), Math.min(4, count));
            Check.due("child", system.outcome(1), HomeSystem.WAITS);
            Check.due("unread of " + count, system.unread(1, false), Math.min(4, count));
            Check.due("nothing the other way", system.unread(1, true), 0);
            Check.due("child's child", system.outcome(4), HomeSystem.WAITS);
            Check.due("nothing there", system.unread(4, false), 0);
        }
    }

    private static void oneReadMakesRoom() {
        for (int read = 0; read < 8; read++) {
            for (int count = read; count < read + 6; count++) {
                HomeSystem system = system("int main(int n) { spawn(1, n % 100); for (int i = 0; i < n / 100; i++) { send(1, i); put(i); } return 5; }",
                        "int main(int n) { while (n--) put(recv(0)); " + SLEEPS + " }");
                Check.right(system, 7, SLEEPER);
                boolean fits = count <= read + 4;
                Check.due("parent that sent " + count + " of which " + read + " were read", system.run(0, count * 100 + read, 50, 99), fits ? HomeSystem.DONE : HomeSystem.WAITS);
                Check.due("sent", system.paper(0), Math.min(count, read + 4));
                Check.due("read", system.paper(1), read);
                for (int i = 0; i < read; i++) {
                    Check.due("in order", system.paperAt(1, i), i);
                }
                Check.due("unread", system.unread(1, false), Math.min(4, count - read));
            }
        }
    }

    private static void rowsInOrder() {
        int[] numbers = {LOW, HIGH, -1, 0, 1, 255, 256};
        StringBuilder sends = new StringBuilder();
        for (int i = 0; i < numbers.length; i++) {
            sends.append("send(0, ").append(numbers[i] & 0xffffffffL).append("); ");
        }
        HomeSystem system = system("int main(int n) { spawn(1, 0); spawn(1, 0); for (int i = 0; i < 7; i++) put(recv(2)); for (int i = 0; i < 7; i++) put(recv(1)); return 5; }",
                "int main(int n) { " + sends + "}");
        Check.due("run", system.run(0, 0, 100, 99), HomeSystem.DONE);
        for (int i = 0; i < 14; i++) {
            Check.due("number " + i, system.paperAt(0, i), numbers[i % 7]);
        }
        Check.due("first child", system.outcome(1), HomeSystem.DONE);
    }

    /** "if h has ended, x is gone". */
    private static void sendToOneThatHasEnded() {
        for (int count = 0; count < 7; count++) {
            HomeSystem system = system("int main(int n) { spawn(1, 0); wait(1); for (int i = 0; i < n; i++) send(1, i); spawn(7, 0); recv(2); }", "int main(int n) { return 2; }");
            Check.right(system, 7, SLEEPER);
            Check.due("parent", system.run(0, count, 50, 99), HomeSystem.WAITS);
            Check.due("unread of one that has ended", system.unread(1, false), 0);
            system = system("int main(int n) { spawn(1, n); return 2; }", "int main(int n) { more(0); for (int i = 0; i < n; i++) send(0, i); " + SLEEPS + " }");
            Check.right(system, 7, SLEEPER);
            Check.due("parent", system.run(0, count, 50, 99), HomeSystem.DONE);
            Check.due("child", system.outcome(1), HomeSystem.WAITS);
            Check.due("unread of a parent that has ended", system.unread(1, true), 0);
            Check.due("its own child was begun", system.outcome(4), HomeSystem.WAITS);
        }
    }

    /** "a row is there as long as its reader runs". */
    private static void aFullRowWhoseReaderEnds() {
        String[] ends = {"return 1;", "end(1);", "1 / 0;", "int a[1]; a[1];", "recv(3);", "for (;;) ;", "main(1);"};
        int[] outcomes = {HomeSystem.DONE, HomeSystem.ENDED, HomeSystem.ZERO, HomeSystem.OUT, HomeSystem.OUT, HomeSystem.WORN, HomeSystem.DEEP};
        // the first number is read before the end, or only seen, so that the row is full then
        String[] looks = {"recv", "more"};
        for (int i = 0; i < 2 * ends.length; i++) {
            String end = ends[i / 2];
            String look = looks[i % 2];
            HomeSystem system = system("int main(int n) { spawn(1, 0); for (int i = 0; i < 9; i++) send(1, i); return 6; }", "int main(int n) { " + look + "(0); " + end + " }");
            Check.due("parent goes on behind " + end, system.run(0, 0, 40, 24), HomeSystem.DONE);
            Check.due("child " + end, system.outcome(1), outcomes[i / 2]);
            Check.due("unread " + end, system.unread(1, false), 0);
            system = system("int main(int n) { spawn(1, 0); " + look + "(1); " + end + " }", "int main(int n) { for (int i = 0; i < 9; i++) send(0, i); return 6; }");
            Check.due("parent " + end, system.run(0, 0, 40, 24), outcomes[i / 2]);
            Check.due("child goes on behind " + end, system.outcome(1), HomeSystem.DONE);
            Check.due("unread " + end, system.unread(1, true), 0);
        }
    }

    /** "when h has ended and none is left, it waits for good". */
    private static void recvOfOneThatHasEnded() {
        for (int sent = 0; sent < 5; sent++) {
            for (int asked = 0; asked < 6; asked++) {
                HomeSystem system = system("int main(int n) { spawn(1, n % 10); wait(1); for (int i = 0; i < n / 10; i++) put(recv(1)); return 5; }",
                        "int main(int n) { for (int i = 0; i < n; i++) send(0, i + 70); return 4; }");
                Check.due(asked + " of " + sent, system.run(0, sent + 10 * asked, 50, 99), asked <= sent ? HomeSystem.DONE : HomeSystem.WAITS);
                Check.due("read", system.paper(0), Math.min(asked, sent));
                Check.due("child", system.outcome(1), HomeSystem.DONE);
                Check.due("unread", system.unread(1, true), 0);
            }
        }
        // of a parent that has ended
        for (int sent = 0; sent < 5; sent++) {
            HomeSystem system = system("int main(int n) { spawn(1, 0); for (int i = 0; i < n; i++) send(1, i + 70); return 4; }", "int main(int n) { for (;;) put(recv(0)); }");
            Check.due("parent", system.run(0, sent, 50, 99), HomeSystem.DONE);
            Check.due("child", system.outcome(1), HomeSystem.WAITS);
            Check.due("read", system.paper(1), sent);
            Check.due("unread", system.unread(1, false), 0);
        }
    }

    /** "waits until there is a number from h (1), or h has ended without one left (0)". */
    private static void moreOfEachSort() {
        for (int sent = 0; sent < 7; sent++) {
            HomeSystem system = system("int main(int n) { spawn(1, n); while (more(1)) { put(more(1)); put(recv(1)); } put(more(1)); return 3; }",
                    "int main(int n) { for (int i = 0; i < n; i++) send(0, i); return 4; }");
            Check.due("run", system.run(0, sent, 100, 99), HomeSystem.DONE);
            Check.due("asked and read", system.paper(0), 2 * sent + 1);
            for (int i = 0; i < sent; i++) {
                Check.due("there is one", system.paperAt(0, 2 * i), 1);
                Check.due("it is still there", system.paperAt(0, 2 * i + 1), i);
            }
            Check.due("there is none", system.paperAt(0, 2 * sent), 0);
        }
        // it waits as long as nobody sends and nobody ends
        HomeSystem system = system("int main(int n) { spawn(1, 0); put(7); more(1); put(8); }", "int main(int n) { put(more(0)); }");
        Check.due("parent", system.run(0, 0, 50, 99), HomeSystem.WAITS);
        Check.due("child", system.outcome(1), HomeSystem.WAITS);
        Check.paper("parent", system, 0, 7);
        Check.paper("child", system, 1);
    }

    /** "wait(h): waits until child h has ended: its value if it ended DONE or ENDED". */
    private static void valuesOfWait() {
        int[] values = {LOW, -7, -1, 0, 1, 255, 256, HIGH};
        for (int i = 0; i < values.length; i++) {
            HomeSystem system = system("int main(int n) { spawn(1, n); spawn(2, n); put(wait(2)); put(wait(1)); put(wait(1)); put(wait(2)); return wait(1); }",
                    "int main(int n) { return n; }", "int main(int n) { end(n); }");
            Check.due("run", system.run(0, values[i], 50, 99), HomeSystem.DONE);
            Check.paper("values", system, 0, values[i], values[i], values[i], values[i]);
            Check.due("value", system.value(0), values[i]);
            Check.due("DONE", system.outcome(1), HomeSystem.DONE);
            Check.due("ENDED", system.outcome(2), HomeSystem.ENDED);
            Check.due("value of ENDED", system.value(2), values[i]);
        }
    }

    /** "otherwise its outcome as a number below 0". */
    private static void outcomesOfWait() {
        String[] bodies = {"int a[1]; a[n];", "wait(1);", "return 1 / (n - 1);", "return main(n);", "while (n) ;"};
        int[] outcomes = {HomeSystem.OUT, HomeSystem.OUT, HomeSystem.ZERO, HomeSystem.DEEP, HomeSystem.WORN};
        for (int i = 0; i < bodies.length; i++) {
            HomeSystem system = system("int main(int n) { spawn(1, 1); return wait(1); }", "int main(int n) { put(6); " + bodies[i] + " }");
            Check.due("run", system.run(0, 0, 50, 60), HomeSystem.DONE);
            Check.due("wait of " + bodies[i], system.value(0), -outcomes[i]);
            Check.due("outcome of " + bodies[i], system.outcome(1), outcomes[i]);
            Check.due("its value", system.value(1), 0);
            Check.due("what was written until then stays", system.paperAt(1, 0), 6);
        }
        HomeSystem system = system("int main(int n) { spawn(1, 1); return wait(1); }");
        Check.words(system, 1, 0);
        Check.due("run", system.run(0, 0, 50, 60), HomeSystem.DONE);
        Check.due("wait of FAULT", system.value(0), -HomeSystem.FAULT);
    }

    private static void waitForOneThatWaits() {
        HomeSystem system = system("int main(int n) { spawn(1, 0); put(1); wait(1); put(2); }", SLEEPER);
        Check.due("parent", system.run(0, 0, 50, 99), HomeSystem.WAITS);
        Check.due("child", system.outcome(1), HomeSystem.WAITS);
        Check.paper("parent", system, 0, 1);
        Check.due("value of WAITS", system.value(0), 0);
        // its own child has ended, but it has not
        system = system("int main(int n) { if (n < 2) { spawn(0, n + 1); put(wait(1)); if (n) recv(0); } return n; }");
        Check.due("the first", system.run(0, 0, 50, 99), HomeSystem.WAITS);
        Check.due("the second", system.outcome(1), HomeSystem.WAITS);
        Check.due("the third", system.outcome(4), HomeSystem.DONE);
        Check.paper("the second", system, 1, 2);
        Check.paper("the first", system, 0);
    }

    /** "A handle of nobody (or 0 for wait): OUT." */
    private static void handlesOfNobody() {
        String[] calls = {"send(h, 1);", "recv(h);", "more(h);", "wait(h);"};
        int[] handles = {LOW, -1, 0, 1, 2, 3, 4, 5, 256, HIGH};
        for (int c = 0; c < calls.length; c++) {
            for (int children = 0; children < 4; children++) {
                HomeSystem system = system("int main(int n) { for (int i = 0; i < " + children + "; i++) spawn(1, i); int h = n; put(1); " + calls[c] + " put(2); }",
                        "int main(int n) { send(0, 5); return 1; }");
                for (int i = 0; i < handles.length; i++) {
                    boolean somebody = handles[i] >= 1 && handles[i] <= children;
                    Check.due(calls[c] + " of " + handles[i] + " with " + children, system.run(0, handles[i], 20, 99), somebody ? HomeSystem.DONE : HomeSystem.OUT);
                    Check.due("paper", system.paper(0), somebody ? 2 : 1);
                    Check.noValue(calls[c], system, 0);
                }
            }
        }
    }

    /** "HANDLES: 0 is the parent". */
    private static void handleOfTheParent() {
        String[] calls = {"send(h, 1);", "put(recv(h));", "put(more(h));", "wait(h);"};
        for (int c = 0; c < calls.length; c++) {
            for (int h = -1; h < 3; h++) {
                HomeSystem system = system("int main(int n) { spawn(1, n); send(1, 6); send(1, 6); recv(1); return 4; }", "int main(int n) { int h = n; " + calls[c] + " send(0, 2); return 8; }");
                boolean fine = h == 0 && c != 3;
                Check.due("parent of " + calls[c] + " with " + h, system.run(0, h, 20, 99), fine ? HomeSystem.DONE : HomeSystem.WAITS);
                Check.due(calls[c] + " with " + h, system.outcome(1), fine ? HomeSystem.DONE : HomeSystem.OUT);
                Check.due("written", system.paper(1), fine && (c == 1 || c == 2) ? 1 : 0);
            }
        }
    }

    private static void endsOfProcesses() {
        int[] values = {LOW, -1, 0, 1, HIGH};
        for (int i = 0; i < values.length; i++) {
            HomeSystem system = system("int f(int x) { end(x); return 5; } int main(int n) { put(1); put(f(n)); put(2); return 6; }");
            Check.due("ended in a function", system.run(0, values[i], 20, 99), HomeSystem.ENDED);
            Check.due("value", system.value(0), values[i]);
            Check.paper("paper", system, 0, 1);
        }
        // a parent's end ends no child, and a child's end no parent
        HomeSystem system = system("int main(int n) { spawn(1, 0); end(3); }", "int main(int n) { more(0); for (int i = 0; i < 9; i++) put(i); return 4; }");
        Check.due("parent", system.run(0, 0, 30, 99), HomeSystem.ENDED);
        Check.due("child", system.outcome(1), HomeSystem.DONE);
        Check.due("child wrote", system.paper(1), 9);
    }

    /** "0 when the reader had ended (WAITS is no end for that) or one of them was not begun". */
    private static void unreadInTheEnd() {
        // the parent sends two down and the child two up; each ends or waits
        for (int parent = 0; parent < 2; parent++) {
            for (int child = 0; child < 2; child++) {
                HomeSystem system = system("int main(int n) { spawn(1, 0); spawn(2, 0); send(1, 1); send(1, 2); " + (parent == 0 ? "return 1;" : "recv(2);") + " }",
                        "int main(int n) { more(0); send(0, 3); send(0, 4); send(0, 5); spawn(2, 0); " + (child == 0 ? "return 1;" : "recv(1);") + " }", SLEEPER);
                Check.due("parent", system.run(0, 0, 30, 99), parent == 0 ? HomeSystem.DONE : HomeSystem.WAITS);
                Check.due("child", system.outcome(1), child == 0 ? HomeSystem.DONE : HomeSystem.WAITS);
                Check.noValue("waiting", system, 0);
                Check.noValue("waiting", system, 1);
                Check.due("unread up, " + parent + child, system.unread(1, true), parent == 0 ? 0 : 3);
                Check.due("unread down, " + parent + child, system.unread(1, false), child == 0 ? 0 : 2);
                for (int p = 2; p < 13; p++) {
                    Check.due("unread up from " + p, system.unread(p, true), 0);
                    Check.due("unread down to " + p, system.unread(p, false), 0);
                }
            }
        }
        // each row is its own; those without children wait as their row is full
        HomeSystem system = system("int main(int n) { for (int i = 1; i < 4; i++) if (spawn(0, 3 * n + i) == i) for (int k = 0; k < (n + i) % 4 + 1; k++) send(i, k); "
                + "if (n) for (int k = 0; n > 3 || k < n % 3 + 1; k++) send(0, k); wait(1); }");
        system.run(0, 0, 100, 99);
        for (int p = 1; p < 13; p++) {
            Check.due("outcome " + p, system.outcome(p), HomeSystem.WAITS);
            int n = (p - 1) / 3;
            Check.due("unread up from " + p, system.unread(p, true), p < 4 ? p % 3 + 1 : 4);
            Check.due("unread down to " + p, system.unread(p, false), (p - 2 * n) % 4 + 1);
        }
    }

    /** It is the parent of each that has ended or not: all ways in which the four parents end or wait. */
    private static void unreadByWhoeverIsTheParent() {
        // one child of each sends nothing, the others some; whoever has children ends, or waits for the one that sends nothing
        for (int silent = 1; silent < 4; silent++) {
            HomeSystem system = null;
            for (int mask = 0; mask < 16; mask++) {
                if (mask % 8 == 0) {
                    system = system("int main(int x) { int n = x % 16, m = x / 16, k = (n + 2) % 3 + 1; if (n < 4) for (int i = 1; i < 4; i++) spawn(0, m * 16 + 3 * n + i); "
                            + "for (int i = 0; n && k != " + silent + " && i < k; i++) send(0, i); if (n > 3) recv(0); if (m >> n & 1) return 1; recv(" + silent + "); }");
                }
                Check.due("run " + mask, system.run(0, 16 * mask, 50, 99), (mask & 1) == 0 ? HomeSystem.WAITS : HomeSystem.DONE);
                for (int p = 1; p < 13; p++) {
                    int parent = (p - 1) / 3;
                    int sent = p - 3 * parent == silent ? 0 : p - 3 * parent;
                    boolean ends = p < 4 && (mask >> p & 1) == 1;
                    Check.due("outcome " + p + " with " + mask, system.outcome(p), ends ? HomeSystem.DONE : HomeSystem.WAITS);
                    Check.due("unread from " + p + " with " + mask, system.unread(p, true), (mask >> parent & 1) == 1 ? 0 : sent);
                    Check.due("nothing down to " + p, system.unread(p, false), 0);
                }
            }
        }
    }

    /** "(A call that waits takes it once.)" */
    private static void waitingTakesWorkOnce() {
        for (int work = 8; work < 12; work++) {
            HomeSystem system = system("int main(int n) { spawn(1, 0); put(recv(1)); put(wait(1)); put(more(1)); put(7); }", "int main(int n) { for (int i = 0; i < 5; i++) ; send(0, 3); return 4; }");
            Check.due("with " + work, system.run(0, 0, work, 99), work < 9 ? HomeSystem.WORN : HomeSystem.DONE);
            Check.due("written with " + work, system.paper(0), work < 9 ? 3 : 4);
        }
        // a send that waits for room, too: main, spawn, five sends and wait
        for (int work = 7; work < 10; work++) {
            HomeSystem system = system("int main(int n) { spawn(1, 0); send(1, 1); send(1, 2); send(1, 3); send(1, 4); send(1, 5); return wait(1); }",
                    "int main(int n) { n++ ; n--; n = 5; recv(0); return 4; }");
            Check.due("with " + work, system.run(0, 0, work, 99), work < 8 ? HomeSystem.WORN : HomeSystem.DONE);
        }
    }

    private static HomeSystem withDisk(String text) {
        HomeSystem system = system(text);
        for (int i = 0; i < 128; i++) {
            system.setDisk(i, 1000 + i);
        }
        return system;
    }

    /** "the first elements of a, 16 at most". */
    private static void sizesOfBlocks() {
        int[] sizes = {1, 2, 15, 16, 17, 40};
        for (int i = 0; i < sizes.length; i++) {
            int size = sizes[i];
            HomeSystem system = withDisk("int b[3], a[" + size + "], c[3]; int main(int n) { a[" + (size - 1) + "] = -5; get(3, a); for (int i = 0; i < len(a); i++) put(a[i]); put(b[2]); put(c[0]); }");
            Check.due("get", system.run(0, 0, 100, 99), HomeSystem.DONE);
            for (int k = 0; k < size; k++) {
                Check.due("element " + k + " of " + size, system.paperAt(0, k), k < 16 ? 1048 + k : k == size - 1 ? -5 : 0);
            }
            Check.due("before it", system.paperAt(0, size), 0);
            Check.due("behind it", system.paperAt(0, size + 1), 0);
            Check.due("the disk stays", system.disk(48), 1048);
            system = withDisk("int main(int n) { int a[" + size + "]; for (int i = 0; i < len(a); i++) a[i] = 7 + i; set(3, a); return a[0]; }");
            Check.due("set", system.run(0, 0, 100, 99), HomeSystem.DONE);
            for (int k = 40; k < 70; k++) {
                boolean set = k >= 48 && k < 48 + Math.min(16, size);
                Check.due("word " + k + " of the disk with " + size, system.disk(k), set ? 7 + k - 48 : 1000 + k);
            }
        }
    }

    /** "OUT ... when b is not 0 .. 7". */
    private static void numbersOfBlocks() {
        int[] blocks = {LOW, -8, -1, 0, 1, 6, 7, 8, 9, 16, HIGH};
        for (int i = 0; i < blocks.length; i++) {
            boolean there = blocks[i] >= 0 && blocks[i] <= 7;
            HomeSystem system = withDisk("int a[16]; int main(int n) { get(n, a); put(a[0]); put(a[15]); }");
            Check.due("get of " + blocks[i], system.run(0, blocks[i], 100, 99), there ? HomeSystem.DONE : HomeSystem.OUT);
            Check.noValue("get", system, 0);
            if (there) {
                Check.paper("get of " + blocks[i], system, 0, 1000 + 16 * blocks[i], 1015 + 16 * blocks[i]);
            } else {
                Check.paper("get of " + blocks[i], system, 0);
            }
            system = withDisk("int a[16] = { 3 }; int main(int n) { a[15] = 4; set(n, a); }");
            Check.due("set of " + blocks[i], system.run(0, blocks[i], 100, 99), there ? HomeSystem.DONE : HomeSystem.OUT);
            Check.noValue("set", system, 0);
            for (int k = 0; k < 128; k++) {
                boolean set = there && k / 16 == blocks[i];
                Check.due("word " + k, system.disk(k), set ? k % 16 == 0 ? 3 : k % 16 == 15 ? 4 : 0 : 1000 + k);
            }
        }
    }

    /** "OUT in other processes". */
    private static void blocksOfOthers() {
        String[] calls = {"get(0, a);", "set(0, a);", "get(8, a);"};
        for (int c = 0; c < calls.length; c++) {
            HomeSystem system = withDisk("int a[16]; int main(int n) { if (n == " + c + ") { spawn(0, 9); put(wait(1)); } else { put(1); " + calls[c] + " put(2); } }");
            Check.due("process 0", system.run(0, c, 50, 99), HomeSystem.DONE);
            Check.paper("process 0", system, 0, -HomeSystem.OUT);
            Check.paper("process 1", system, 1, 1);
            Check.due("disk", system.disk(0), 1000);
            Check.due("disk", system.disk(15), 1015);
        }
    }

    /** "it stays from run to run". */
    private static void diskStays() {
        HomeSystem system = system("int a[1]; int main(int n) { get(7, a); a[0] += n; set(7, a); return a[0] / (n - 5); }");
        Check.due("run", system.run(0, 3, 9, 99), HomeSystem.DONE);
        Check.due("run", system.run(0, 4, 9, 99), HomeSystem.DONE);
        Check.due("disk", system.disk(112), 7);
        Check.due("what is set before ZERO stays", system.run(0, 5, 9, 99), HomeSystem.ZERO);
        Check.due("disk", system.disk(112), 12);
        system.setDisk(112, -1);
        Check.due("run", system.run(0, 1, 9, 99), HomeSystem.DONE);
        Check.due("disk", system.disk(112), 0);
        Check.due("another object's disk is its own", new HomeSystem().disk(112), 0);
    }
}
