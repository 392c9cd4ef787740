import java.lang.reflect.Field;
import java.lang.reflect.Method;
import java.lang.reflect.Modifier;

/** What each method of the face throws, the disk, the life, and that there is no other face. */
public final class FaceTest {
    public static void main(String[] args) {
        indices();
        programs();
        turns();
        runs();
        life();
        disk();
        diskOfTexts();
        members();
        Check.end("FaceTest");
    }

    private static void indices() {
        HomeSystem system = new HomeSystem();
        Check.right(system, 0, "int main(int n) { spawn(0, n); put(3); put(4); }");
        int[] noProcess = {-1, 13, Integer.MAX_VALUE, Integer.MIN_VALUE};
        for (int when = 0; when < 2; when++) {
            for (int i = 0; i < noProcess.length; i++) {
                int p = noProcess[i];
                Check.throwing("outcome " + p, Check.INDEX, () -> system.outcome(p));
                Check.throwing("value " + p, Check.INDEX, () -> system.value(p));
                Check.throwing("paper " + p, Check.INDEX, () -> system.paper(p));
                Check.throwing("paperAt " + p, Check.INDEX, () -> system.paperAt(p, 0));
                Check.throwing("unread " + p, Check.INDEX, () -> system.unread(p, true));
            }
            Check.throwing("unread 0", Check.INDEX, () -> system.unread(0, true));
            Check.throwing("unread 0", Check.INDEX, () -> system.unread(0, false));
            Check.throwing("unread 12", 0, () -> system.unread(12, false));
            Check.throwing("paperAt of nobody", Check.INDEX, () -> system.paperAt(12, 0));
            Check.due("outcome of nobody", system.outcome(12), HomeSystem.NONE);
            Check.due("value of nobody", system.value(12), 0);
            Check.due("paper of nobody", system.paper(12), 0);
            if (when == 0) {
                Check.due("outcome before any run", system.outcome(0), HomeSystem.NONE);
                Check.throwing("paperAt before any run", Check.INDEX, () -> system.paperAt(0, 0));
                system.run(0, 1, 4, 100);
            }
        }
        Check.throwing("paperAt -1", Check.INDEX, () -> system.paperAt(0, -1));
        Check.throwing("paperAt 1", 0, () -> system.paperAt(0, 1));
        Check.throwing("paperAt 2", Check.INDEX, () -> system.paperAt(0, 2));
    }

    private static void programs() {
        HomeSystem system = new HomeSystem();
        int[] noProgram = {-1, 8, Integer.MAX_VALUE, Integer.MIN_VALUE};
        Check.none("int main(int n) { `");
        Check.tape(system, Check.bytes("int main(int n) { return n; "));
        for (int i = 0; i < noProgram.length; i++) {
            int p = noProgram[i];
            Check.throwing("text " + p, Check.INDEX, () -> system.text(p));
            Check.throwing("raw " + p, Check.INDEX, () -> system.raw(p));
            Check.throwing("run " + p, Check.INDEX, () -> system.run(p, 0, 0, 0));
        }
        Check.due("the tape is as it was", system.text(7), HomeSystem.NONE);
        Check.due("place", system.place(), 29);
        Check.throwing("text 8", Check.INDEX, () -> system.text(8));
        Check.due("place is as it was", system.place(), 29);
        Check.due("empty program", system.run(7, 0, 1, 100), HomeSystem.NONE);
        Check.right(system, 7, "int main(int n) { return n; }");
        Check.due("place of a right one", system.place(), 0);
        Check.due("run", system.run(7, 5, 1, 100), HomeSystem.DONE);
        Check.due("wrong text", Check.text(system, 7, "int main(int n) { return x; }"), 2);
        Check.due("its place", system.place(), 26);
        Check.due("a program that was wrong is empty", system.run(7, 0, 1, 100), HomeSystem.NONE);
        Check.due("the last run is the one before", system.value(0), 5);
        Check.due("and so is its outcome", system.outcome(0), HomeSystem.DONE);
        Check.words(system, 7, 0x73);
        Check.due("raw leaves the place", system.place(), 26);
        Check.due("raw instead of a text", system.run(7, 6, 1, 100), HomeSystem.DONE);
        Check.due("value", system.value(0), 6);
        system.feed(0x73000000, 0, 0, 0, 0);
        system.end(3);
        Check.due("three bytes are no word", system.raw(7), HomeSystem.NONE);
        Check.throwing("and are gone", Check.ARGUMENT, () -> system.end(1));
        Check.due("no words, no program", system.run(7, 0, 1, 100), HomeSystem.NONE);
        for (int i = 0; i < 4; i++) {
            Check.right(system, i, "int x = 4; int main(int n) { return " + Check.times("n+", 900) + i + "; }");
            Check.due("a large one", system.run(i, 1, 1, 100), HomeSystem.DONE);
            Check.due("its value", system.value(0), 900 + i);
        }
        for (int i = 0; i < 8; i++) {
            Check.right(system, i, "int main(int n) { return n + " + i + "; }");
        }
        for (int i = 0; i < 8; i++) {
            Check.due("program " + i, system.run(i, 10, 1, 100), HomeSystem.DONE);
            Check.due("its value", system.value(0), 10 + i);
        }
    }

    private static void turns() {
        HomeSystem system = new HomeSystem();
        Check.throwing("turn 199", Check.ARGUMENT, () -> system.turn(199));
        Check.throwing("turn 200", 0, () -> system.turn(200));
        Check.throwing("turn 100000", 0, () -> system.turn(100000));
        Check.throwing("turn 100001", Check.ARGUMENT, () -> system.turn(100001));
        Check.throwing("turn -1", Check.ARGUMENT, () -> system.turn(-1));
    }

    private static void runs() {
        HomeSystem system = new HomeSystem();
        Check.right(system, 0, "int main(int n) { return n; }");
        Check.throwing("work -1", Check.ARGUMENT, () -> system.run(0, 0, -1, 0));
        Check.throwing("work 101", Check.ARGUMENT, () -> system.run(0, 0, 101, 0));
        Check.throwing("stack -1", Check.ARGUMENT, () -> system.run(0, 0, 0, -1));
        Check.throwing("stack 513", Check.ARGUMENT, () -> system.run(0, 0, 0, 513));
        Check.throwing("an empty program", Check.ARGUMENT, () -> system.run(1, 0, 0, 513));
        Check.throwing("no program first", Check.INDEX, () -> system.run(8, 0, -1, -1));
        Check.due("life", system.life(), 6000);
        Check.due("no run", system.outcome(0), HomeSystem.NONE);
        Check.due("work 0, stack 0", system.run(0, 0, 0, 0), HomeSystem.WORN);
        Check.due("work 100, stack 512", system.run(0, -7, 100, 512), HomeSystem.DONE);
        Check.due("value", system.value(0), -7);
        Check.due("life", system.life(), 6000 - 30 - 130);
    }

    private static void life() {
        HomeSystem system = new HomeSystem();
        Check.right(system, 0, "int main(int n) { return n; }");
        for (int i = 0; i < 45; i++) {
            Check.due("run " + i, system.run(0, i, 100, 6), HomeSystem.DONE);
        }
        Check.due("life", system.life(), 150);
        Check.due("an empty program takes nothing", system.run(1, 0, 100, 6), HomeSystem.NONE);
        Check.due("life", system.life(), 150);
        Check.due("run", system.run(0, 3, 100, 6), HomeSystem.DONE);
        Check.due("life", system.life(), 20);
        Check.throwing("no life for it", Check.ARITHMETIC, () -> system.run(0, 4, 0, 6));
        Check.throwing("nor for an empty one", Check.ARITHMETIC, () -> system.run(1, 4, 0, 6));
        Check.throwing("arguments first", Check.ARGUMENT, () -> system.run(1, 4, 101, 6));
        Check.throwing("the program first", Check.INDEX, () -> system.run(-1, 4, 100, 6));
        Check.due("life", system.life(), 20);
        Check.due("value", system.value(0), 3);
        HomeSystem other = new HomeSystem();
        Check.right(other, 0, "int main(int n) { return n; }");
        for (int i = 0; i < 199; i++) {
            other.run(0, 0, 0, 0);
        }
        Check.due("life", other.life(), 30);
        Check.throwing("1 too much", Check.ARITHMETIC, () -> other.run(0, 0, 1, 0));
        Check.due("the last", other.run(0, 0, 0, 0), HomeSystem.WORN);
        Check.due("life", other.life(), 0);
        Check.throwing("none left", Check.ARITHMETIC, () -> other.run(0, 0, 0, 0));
    }

    private static void disk() {
        HomeSystem system = new HomeSystem();
        for (int i = 0; i < 128; i++) {
            Check.due("disk " + i + " at first", system.disk(i), 0);
        }
        system.setDisk(0, Integer.MIN_VALUE);
        system.setDisk(127, 7);
        Check.due("disk 0", system.disk(0), Integer.MIN_VALUE);
        Check.due("disk 127", system.disk(127), 7);
        Check.due("disk 1", system.disk(1), 0);
        Check.throwing("disk -1", Check.INDEX, () -> system.disk(-1));
        Check.throwing("disk 128", Check.INDEX, () -> system.disk(128));
        Check.throwing("setDisk -1", Check.INDEX, () -> system.setDisk(-1, 1));
        Check.throwing("setDisk 128", Check.INDEX, () -> system.setDisk(128, 1));
    }

    private static void diskOfTexts() {
        HomeSystem system = new HomeSystem();
        for (int i = 0; i < 128; i++) {
            system.setDisk(i, 1000 + i);
        }
        Check.right(system, 0, "int a[20]; int b[3] = { 7, 8, 9 }; int main(int n) { get(n, a); put(a[0]); put(a[15]); put(a[16]); set(7 - n, b); get(7, b); return b[2]; }");
        Check.due("run", system.run(0, 0, 9, 99), HomeSystem.DONE);
        Check.paper("sixteen at most", system, 0, 1000, 1015, 0);
        Check.due("value", system.value(0), 9);
        Check.due("disk 112", system.disk(112), 7);
        Check.due("disk 114", system.disk(114), 9);
        Check.due("the others stay", system.disk(115), 1115);
        Check.due("and those before", system.disk(111), 1111);
        Check.due("block 8", system.run(0, 8, 9, 99), HomeSystem.OUT);
        Check.due("block -1", system.run(0, -1, 9, 99), HomeSystem.OUT);
        Check.right(system, 0, "int a[20]; int main(int n) { a[16] = 5; a[0] = 4; set(1, a); set(8, a); }");
        Check.due("run", system.run(0, 0, 9, 99), HomeSystem.OUT);
        Check.due("disk 16", system.disk(16), 4);
        Check.due("disk 31", system.disk(31), 0);
        Check.due("disk 32", system.disk(32), 1032);
        Check.right(system, 0, "int a[2]; int main(int n) { if (n) set(0, a); else { spawn(0, 1); put(wait(1)); } return 1; }");
        Check.due("run", system.run(0, 0, 9, 99), HomeSystem.DONE);
        Check.paper("not of process 1", system, 0, -HomeSystem.OUT);
        Check.due("disk 0", system.disk(0), 1000);
        Check.due("of process 0", system.run(0, 1, 9, 99), HomeSystem.DONE);
        Check.due("disk 0", system.disk(0), 0);
        Check.right(system, 0, "int f(int a[]) { get(0, a); set(2, a); return len(a); } int main(int n) { int x[5]; return f(x) + x[4]; }");
        Check.due("run", system.run(0, 1, 9, 99), HomeSystem.DONE);
        Check.due("through a parameter", system.value(0), 5 + 1004);
        Check.due("disk 36", system.disk(36), 1004);
        Check.due("disk 37", system.disk(37), 1037);
    }

    /** The constants and methods of the document, and nothing else that can be seen from outside. */
    private static void members() {
        int[] outcomes = {HomeSystem.DONE, HomeSystem.ENDED, HomeSystem.OUT, HomeSystem.ZERO, HomeSystem.DEEP, HomeSystem.WORN,
            HomeSystem.WAITS, HomeSystem.FAULT};
        for (int i = 0; i < outcomes.length; i++) {
            Check.due("constant " + i, outcomes[i], i);
        }
        Check.due("NONE", HomeSystem.NONE, -1);
        int fields = 0;
        for (Field field : HomeSystem.class.getDeclaredFields()) {
            fields += Modifier.isPrivate(field.getModifiers()) ? 0 : 1;
        }
        int methods = 0;
        for (Method method : HomeSystem.class.getDeclaredMethods()) {
            methods += Modifier.isPrivate(method.getModifiers()) ? 0 : 1;
        }
        Check.due("fields that can be seen", fields, 9);
        Check.due("methods that can be seen", methods, 17);
        Check.due("constructors", HomeSystem.class.getDeclaredConstructors().length, 1);
        Check.due("final", Modifier.isFinal(HomeSystem.class.getModifiers()) ? 1 : 0, 1);
    }
}
