/** Promises 8 to 13: processes that talk to one another, and how they end. */
public final class ProcessTest {
    public static void main(String[] args) {
        family();
        spawning();
        rows();
        fullRows();
        endedPartners();
        asking();
        waiting();
        handles();
        faultsOfOthers();
        turnsChangeNothing();
        Check.end("ProcessTest");
    }

    private static HomeSystem system(String... texts) {
        HomeSystem system = new HomeSystem();
        for (int i = 0; i < texts.length; i++) {
            Check.right(system, i, texts[i]);
        }
        return system;
    }

    /** All thirteen, each telling its number. */
    private static void family() {
        HomeSystem system = system("int main(int n) { put(n); int h = 1; while (h < 4) { if (spawn(0, 3 * n + h) != h) end(h); h++; } "
                + "return spawn(0, 1); }");
        Check.due("run", system.run(0, 0, 100, 512), HomeSystem.DONE);
        for (int p = 0; p < 13; p++) {
            Check.due("outcome " + p, system.outcome(p), p < 4 ? HomeSystem.DONE : HomeSystem.ENDED);
            Check.due("value " + p, system.value(p), p < 4 ? HomeSystem.NONE : 1);
            Check.paper("process " + p, system, p, p);
        }
        Check.due("pages", system.pages(), 0);
        Check.due("wrong", system.wrong(), 0);
        Check.right(system, 0, "int main(int n) { return 4; }");
        Check.due("run alone", system.run(0, 0, 100, 512), HomeSystem.DONE);
        for (int p = 1; p < 13; p++) {
            Check.due("no process " + p + " any more", system.outcome(p), HomeSystem.NONE);
            Check.due("its value", system.value(p), 0);
            Check.due("its paper", system.paper(p), 0);
            Check.due("its row up", system.unread(p, true), 0);
            Check.due("its row down", system.unread(p, false), 0);
        }
    }

    private static void spawning() {
        HomeSystem system = system("int main(int n) { put(spawn(-1, 0)); put(spawn(8, 0)); put(spawn(7, 0)); put(spawn(1, 5)); put(spawn(1, 6)); "
                + "put(spawn(2147483647, 6)); put(spawn(1, 7)); put(spawn(1, 8)); return wait(1) + wait(2) * 10 + wait(3) * 100; }",
                "int main(int n) { return n; }");
        Check.due("run", system.run(0, 0, 100, 512), HomeSystem.DONE);
        Check.paper("handles", system, 0, -1, -1, -1, 1, 2, -1, 3, -1);
        Check.due("values", system.value(0), 765);
        // a child has meters of its own, as many as its parent had at first
        system = system("int main(int n) { for (int i = 0; i < 20; i++) ; spawn(1, 0); return wait(1); }",
                "int main(int n) { for (;;) put(1); }");
        Check.due("run", system.run(0, 0, 30, 512), HomeSystem.DONE);
        Check.due("outcome as a number below 0", system.value(0), -HomeSystem.WORN);
        Check.due("numbers of the child", system.paper(1), 14);
        // the variables of the text are its own
        system = system("int x = 1; int main(int n) { x += n; if (!n) { spawn(0, 5); wait(1); } return x; }");
        system.run(0, 0, 100, 512);
        Check.due("x of 0", system.value(0), 1);
        Check.due("x of 1", system.value(1), 6);
    }

    private static void rows() {
        HomeSystem system = system("int main(int n) { spawn(1, 0); spawn(1, 100); for (int i = 0; i < 8; i++) { send(1, i); send(2, i); "
                + "put(recv(2)); put(recv(1)); } return 0; }",
                "int main(int n) { while (more(0)) { int x = recv(0); put(x); send(0, n + x * x); } return 9; }");
        Check.due("run", system.run(0, 0, 100, 512), HomeSystem.DONE);
        int[] squares = new int[16];
        int[] given = new int[8];
        for (int i = 0; i < 8; i++) {
            squares[2 * i] = 100 + i * i;
            squares[2 * i + 1] = i * i;
            given[i] = i;
        }
        Check.paper("squares", system, 0, squares);
        Check.paper("what came down to 1", system, 1, given);
        Check.paper("what came down to 2", system, 2, given);
        Check.due("the child ends when its parent has", system.outcome(1), HomeSystem.DONE);
        Check.due("value", system.value(2), 9);
        // through a child to its child and back
        system = system("int main(int n) { if (n < 2) { spawn(0, n + 1); if (n) send(1, recv(0) + 1); else send(1, 5); int x = recv(1); "
                + "if (n) send(0, x * 2); return x; } send(0, recv(0) * 10); }");
        Check.due("run", system.run(0, 0, 100, 512), HomeSystem.DONE);
        Check.due("value", system.value(0), 120);
        Check.due("outcome of 4", system.outcome(4), HomeSystem.DONE);
        Check.due("outcome of 2", system.outcome(2), HomeSystem.NONE);
    }

    private static void fullRows() {
        // the child never reads: the fifth number waits
        HomeSystem system = system("int main(int n) { spawn(1, 0); for (int i = 0; i < 9; i++) { send(1, i); put(i); } }",
                "int main(int n) { return recv(0) + more(0) + recv(0) + wait(1); }",
                "int main(int n) { recv(0); send(0, 1); send(0, 2); recv(0); recv(0); }",
                "int main(int n) { spawn(2, 0); send(1, 1); send(1, 2); recv(1); recv(1); recv(1); }");
        Check.due("0 ends OUT in its child", system.run(0, 0, 100, 512), HomeSystem.DONE);
        Check.due("wait of nobody", system.outcome(1), HomeSystem.OUT);
        Check.due("unread of one that has ended", system.unread(1, false), 0);
        Check.right(system, 1, "int main(int n) { recv(0); spawn(2, 0); recv(1); }");
        Check.due("both wait", system.run(0, 0, 100, 512), HomeSystem.WAITS);
        Check.paper("five went into the row, as one was read", system, 0, 0, 1, 2, 3, 4);
        Check.due("unread down", system.unread(1, false), 4);
        Check.due("unread up", system.unread(1, true), 0);
        Check.due("child", system.outcome(1), HomeSystem.WAITS);
        Check.due("value of WAITS", system.value(1), 0);
        Check.due("its child", system.outcome(4), HomeSystem.WAITS);
        Check.due("unread below", system.unread(4, false), 0);
        Check.due("3", system.run(3, 0, 100, 512), HomeSystem.WAITS);
        Check.due("all was read", system.unread(1, true), 0);
        Check.due("all was read", system.unread(1, false), 0);
        Check.due("its child waits as well", system.outcome(1), HomeSystem.WAITS);
        // a row up that stays: the parent waits for another child
        system = system("int main(int n) { spawn(1, 3); spawn(1, 4); spawn(2, 0); recv(3); }",
                "int main(int n) { for (int i = 0; i < n; i++) send(0, i); return n; }",
                "int main(int n) { recv(0); }");
        Check.due("waits", system.run(0, 0, 100, 512), HomeSystem.WAITS);
        Check.due("three of an ended child", system.unread(1, true), 3);
        Check.due("four", system.unread(2, true), 4);
        Check.due("value", system.value(2), 4);
        Check.due("none", system.unread(3, true), 0);
        Check.due("none of nobody", system.unread(4, true), 0);
    }

    private static void endedPartners() {
        // what is sent to one that has ended is gone, and a full row is no hindrance then
        HomeSystem system = system("int main(int n) { spawn(1, 0); put(wait(1)); for (int i = 0; i < 9; i++) send(1, i); put(more(1)); put(recv(1)); put(more(1)); recv(1); }",
                "int main(int n) { send(0, 7); return 3; }");
        Check.due("waits for good", system.run(0, 0, 100, 512), HomeSystem.WAITS);
        Check.paper("number of an ended child", system, 0, 3, 1, 7, 0);
        Check.due("child", system.outcome(1), HomeSystem.DONE);
        Check.due("nothing in a row whose reader has ended", system.unread(1, false), 0);
        system = system("int main(int n) { spawn(1, 0); for (int i = 0; i < 9; i++) send(1, i); return 1; }",
                "int main(int n) { recv(0); recv(0); }");
        Check.due("goes on when its child ends", system.run(0, 0, 100, 512), HomeSystem.DONE);
        // a parent that has ended
        system = system("int main(int n) { spawn(1, 0); send(1, 1); send(1, 2); return 1; }",
                "int main(int n) { while (more(0)) put(recv(0)); for (int i = 0; i < 9; i++) send(0, i); put(9); recv(0); }");
        Check.due("parent", system.run(0, 0, 100, 512), HomeSystem.DONE);
        Check.paper("child", system, 1, 1, 2, 9);
        Check.due("child waits for good", system.outcome(1), HomeSystem.WAITS);
        Check.due("row up without a reader", system.unread(1, true), 0);
        // it is the parent's end that counts, not that of the first one, nor the other way round
        system = system("int main(int n) { if (n == 2) { put(more(0)); end(2); } spawn(0, n + 1); if (n == 0) recv(1); return n; }");
        Check.due("the first waits", system.run(0, 0, 100, 512), HomeSystem.WAITS);
        Check.due("its child", system.outcome(1), HomeSystem.DONE);
        Check.due("and that one's", system.outcome(4), HomeSystem.ENDED);
        Check.paper("of an ended parent", system, 4, 0);
        system = system("int main(int n) { if (n == 2) { put(more(0)); end(2); } spawn(0, n + 1); if (n) recv(1); return n; }");
        Check.due("the first ends", system.run(0, 0, 100, 512), HomeSystem.DONE);
        Check.due("its child waits for good", system.outcome(1), HomeSystem.WAITS);
        Check.due("and so that one's", system.outcome(4), HomeSystem.WAITS);
    }

    private static void asking() {
        HomeSystem system = system("int main(int n) { spawn(1, 0); put(more(1)); put(more(1)); put(recv(1)); put(more(1)); put(wait(1)); put(more(1)); }",
                "int main(int n) { send(0, 4); end(5); }");
        Check.due("run", system.run(0, 0, 100, 512), HomeSystem.DONE);
        Check.paper("more", system, 0, 1, 1, 4, 0, 5, 0);
        system = system("int main(int n) { spawn(1, 0); return more(1); }", "int main(int n) { return more(0); }");
        Check.due("each asks the other", system.run(0, 0, 100, 512), HomeSystem.WAITS);
    }

    private static void waiting() {
        HomeSystem system = system("int main(int n) { spawn(1, 0); return wait(1); }", "int main(int n) { recv(0); }",
                "int main(int n) { for (int i = 3; i < 6; i++) spawn(i, 0); put(wait(3)); put(wait(2)); put(wait(1)); put(wait(1)); }",
                "int main(int n) { return 1 / n; }", "int main(int n) { int a[1]; return a[1]; }", "int main(int n) { return main(n); }");
        Check.due("waits for one that waits", system.run(0, 0, 100, 512), HomeSystem.WAITS);
        Check.due("outcome", system.outcome(1), HomeSystem.WAITS);
        Check.due("run", system.run(2, 0, 100, 300), HomeSystem.DONE);
        Check.paper("outcomes", system, 0, -HomeSystem.DEEP, -HomeSystem.OUT, -HomeSystem.ZERO, -HomeSystem.ZERO);
        Check.due("value of ZERO", system.value(1), 0);
        // work is taken once by a call that waits
        system = system("int main(int n) { spawn(1, 0); return wait(1); }", "int main(int n) { while (n < 7) n++; return n; }");
        Check.due("run", system.run(0, 0, 8, 512), HomeSystem.DONE);
        Check.due("value", system.value(0), 7);
    }

    private static void handles() {
        String[] calls = {"send(%, 1)", "recv(%)", "more(%)", "wait(%)"};
        for (int c = 0; c < calls.length; c++) {
            int[] nobody = {-1, 0, 2, 3, 4, 256, Integer.MIN_VALUE, 1};
            for (int i = 0; i < nobody.length; i++) {
                String call = calls[c].replace("%", Integer.toString(nobody[i]));
                HomeSystem system = system("int main(int n) { if (n) spawn(1, 0); put(1); " + call + "; put(2); }", "int main(int n) { put(more(0)); }");
                Check.due(call, system.run(0, nobody[i] == 1 ? 0 : 1, 20, 100), HomeSystem.OUT);
                Check.paper(call, system, 0, 1);
                Check.due("value of OUT", system.value(0), 0);
            }
        }
        // for a child 0 is its parent, but not for wait
        HomeSystem system = system("int main(int n) { spawn(1, 0); send(1, 1); recv(1); return wait(1); }",
                "int main(int n) { more(0); recv(0); send(0, 1); put(3); wait(0); }");
        Check.due("run", system.run(0, 0, 50, 100), HomeSystem.DONE);
        Check.due("value", system.value(0), -HomeSystem.OUT);
        Check.paper("child", system, 1, 3);
    }

    private static void faultsOfOthers() {
        HomeSystem system = system("int a[2]; int main(int n) { spawn(1, 1); spawn(1, 2); spawn(1, 3); a[0] = 4; put(wait(1)); put(wait(2)); put(wait(3)); return a[0]; }",
                "int a[2]; int main(int n) { a[0] = 9; put(n); if (n == 1) a[n + 1] = 3; if (n == 2) get(0, a); return 1 / (n - 3); }");
        Check.due("run", system.run(0, 0, 50, 100), HomeSystem.DONE);
        Check.due("value", system.value(0), 4);
        Check.paper("outcomes", system, 0, -HomeSystem.OUT, -HomeSystem.OUT, -HomeSystem.ZERO);
        Check.paper("what was written stays", system, 2, 2);
        Check.due("pages", system.pages(), 0);
        Check.due("wrong", system.wrong(), 0);
    }

    private static void turnsChangeNothing() {
        int[] lengths = {200, 201, 1000, 100000};
        for (int i = 0; i < lengths.length; i++) {
            HomeSystem system = system("int main(int n) { spawn(1, 3); spawn(1, 4); for (int i = 0; i < 10; i++) { send(1, i); send(2, i); put(recv(1)); put(recv(2)); } return n; }",
                    "int main(int n) { while (more(0)) send(0, recv(0) * n); return 5; }");
            system.turn(lengths[i]);
            Check.due("run in turns of " + lengths[i], system.run(0, 6, 100, 512), HomeSystem.DONE);
            Check.due("paper in turns of " + lengths[i], system.paper(0), 20);
            Check.due("the last in turns of " + lengths[i], system.paperAt(0, 19), 36);
            Check.due("value in turns of " + lengths[i], system.value(0), 6);
            Check.due("child in turns of " + lengths[i], system.outcome(2), HomeSystem.DONE);
        }
    }
}
