/** The edges of each promise: what is refused, that this changes nothing, and what is just not refused. */
public final class EdgeFaceTest {
    private static final int LOW = Integer.MIN_VALUE, HIGH = Integer.MAX_VALUE;
    private static final String RIGHT = "int main(int n) { return n + 7; }";

    public static void main(String[] args) {
        aNewObject();
        feedWithRoomForTwenty();
        feedBytesInOrder();
        endWithinWhatThereIs();
        textOfEachProgram();
        textThatIsRefused();
        textEmptiesTheTape();
        placeOfTheLastText();
        rawOfEachProgram();
        rawThatIsRefused();
        turns();
        runOfEachProgram();
        runThatIsRefused();
        runOfAnEmptyProgram();
        lifeThatJustSuffices();
        orderOfRefusals();
        processesThatAreThere();
        numbersOnPaper();
        rowsThatAreThere();
        wordsOfTheDisk();
        everyWordOfTheDisk();
        lastRunCounts();
        lastRunStays();
        programsStay();
        fiveHundredAndTwelveCalls();
        objectsOfTheirOwn();
        Check.end("EdgeFaceTest");
    }

    /**
     * An object with much to lose: three processes that wrote, one of them ended and two waiting with numbers in their
     * rows, a place, words on the disk, less life, and a right text of so many bytes on the tape.
     */
    private static HomeSystem busy() {
        HomeSystem system = new HomeSystem();
        Check.right(system, 0, "int main(int n) { spawn(1, 0); spawn(2, 5); put(n); put(-1); send(1, 4); send(1, 6); wait(2); recv(2); }");
        Check.right(system, 1, "int main(int n) { put(recv(0)); send(0, 8); spawn(2, 1); wait(1); recv(1); }");
        Check.right(system, 2, "int main(int n) { put(n); end(n * 3); }");
        Check.due("run", system.run(0, 9, 20, 99), HomeSystem.WAITS);
        system.setDisk(0, 11);
        system.setDisk(127, 12);
        Check.due("wrong", Check.text(system, 3, "int main(int n) { return x; }"), 2);
        Check.due("unread up", system.unread(1, true), 1);
        Check.due("unread down", system.unread(1, false), 1);
        Check.tape(system, Check.bytes(RIGHT));
        return system;
    }

    /** What is on the tape of a busy object is there still, and so are its programs. */
    private static void stillBusy(HomeSystem system) {
        Check.throwing("one byte more than there are", Check.ARGUMENT, () -> system.end(RIGHT.length() + 1));
        Check.throwing("all bytes that there are", 0, () -> system.end(RIGHT.length()));
        Check.due("text", system.text(4), 0);
        Check.due("run", system.run(4, 35, 1, 99), HomeSystem.DONE);
        Check.due("value", system.value(0), 42);
        Check.due("program 3 is empty", system.run(3, 0, 1, 1), HomeSystem.NONE);
        Check.due("program 0", system.run(0, 9, 20, 99), HomeSystem.WAITS);
        Check.due("program 2", system.value(2), 15);
    }

    /** Promise 1. */
    private static void aNewObject() {
        HomeSystem system = new HomeSystem();
        Check.due("place", system.place(), 0);
        Check.due("life", system.life(), 6000);
        Check.due("pages", system.pages(), 0);
        Check.due("wrong", system.wrong(), 0);
        for (int p = 0; p < 13; p++) {
            int process = p;
            Check.due("outcome " + p, system.outcome(p), HomeSystem.NONE);
            Check.due("value " + p, system.value(p), 0);
            Check.due("paper " + p, system.paper(p), 0);
            Check.throwing("paperAt " + p, Check.INDEX, () -> system.paperAt(process, 0));
            if (p > 0) {
                Check.due("unread " + p, system.unread(p, true), 0);
                Check.due("unread " + p, system.unread(p, false), 0);
            }
        }
        for (int k = 0; k < 8; k++) {
            Check.due("program " + k, system.run(k, 0, 100, 512), HomeSystem.NONE);
        }
        Check.due("life", system.life(), 6000);
        Check.throwing("an empty tape", Check.ARGUMENT, () -> system.end(1));
        Check.due("no words", system.raw(0), HomeSystem.NONE);
        Check.due("an empty text", system.text(0), 12);
        Check.due("its place", system.place(), 1);
    }

    private static void fill(HomeSystem system, int length) {
        byte[] bytes = new byte[length];
        java.util.Arrays.fill(bytes, (byte) ' ');
        Check.tape(system, bytes);
    }

    /** Promise 2: "IllegalStateException when there is no room for twenty." */
    private static void feedWithRoomForTwenty() {
        int[] lengths = {0, 1, 2007, 2008, 2027, 2028, 2029, 2030, 2047, 2048};
        for (int k = 0; k < lengths.length; k++) {
            HomeSystem system = new HomeSystem();
            int length = lengths[k];
            fill(system, length);
            boolean room = length <= 2028;
            Check.throwing("feed behind " + length, room ? 0 : Check.STATE, () -> system.feed(0x20202020, 0x20202020, 0x20202020, 0x20202020, 0x20202040));
            int then = room ? length + 20 : length;
            Check.throwing("end behind " + length, Check.ARGUMENT, () -> system.end(then + 1));
            Check.throwing("end behind " + length, 0, () -> system.end(then));
            // the last byte that was fed is @, which no text begins with; without it there are blanks alone
            Check.due("text behind " + length, system.text(0), room ? HomeSystem.NONE : 12);
            Check.due("place behind " + length, system.place(), room ? then : then + 1);
        }
        HomeSystem system = new HomeSystem();
        for (int k = 0; k < 102; k++) {
            Check.throwing("feed " + k, 0, () -> system.feed(0, 0, 0, 0, 0));
        }
        Check.throwing("feed 102", Check.STATE, () -> system.feed(0, 0, 0, 0, 0));
        Check.throwing("feed 103", Check.STATE, () -> system.feed(1, 1, 1, 1, 1));
        Check.due("what was there", system.raw(0), 510);
    }

    /** "those of a first, the highest byte first": all kinds of bytes, in each of the twenty places. */
    private static void feedBytesInOrder() {
        for (int at = 0; at < 20; at++) {
            HomeSystem system = new HomeSystem();
            int[] words = new int[5];
            java.util.Arrays.fill(words, 0x20202020);
            int shift = 24 - 8 * (at % 4);
            words[at / 4] ^= (0x20 ^ 0xff) << shift;
            system.feed(0x20202020, 0x20202020, 0x20202020, 0x20202020, 0x20202020);
            system.feed(words[0], words[1], words[2], words[3], words[4]);
            Check.due("text", system.text(0), HomeSystem.NONE);
            Check.due("byte " + at, system.place(), 21 + at);
        }
    }

    /** Promise 3: "IllegalArgumentException when n is not 0 .. what there are." */
    private static void endWithinWhatThereIs() {
        int[] lengths = {0, 1, 19, 20, 21, 2047, 2048};
        for (int k = 0; k < lengths.length; k++) {
            int length = lengths[k];
            int[] refused = {LOW, -1, length + 1, length + 20, 2049, HIGH};
            for (int n = 0; n < refused.length; n++) {
                HomeSystem system = new HomeSystem();
                fill(system, length);
                int to = refused[n];
                Check.throwing("end " + to + " of " + length, Check.ARGUMENT, () -> system.end(to));
                Check.due("text", system.text(0), 12);
                Check.due("all are there", system.place(), length + 1);
            }
            int[] right = {0, 1, length / 2, length - 1, length};
            for (int n = 0; n < right.length; n++) {
                HomeSystem system = new HomeSystem();
                fill(system, length);
                int to = Math.max(0, Math.min(length, right[n]));
                Check.throwing("end " + to + " of " + length, 0, () -> system.end(to));
                Check.throwing("the others are gone", Check.ARGUMENT, () -> system.end(to + 1));
                Check.throwing("again", 0, () -> system.end(to));
                Check.due("text", system.text(0), 12);
                Check.due("so many are there", system.place(), to + 1);
            }
        }
        HomeSystem system = busy();
        Check.refused("end -1", Check.ARGUMENT, system, () -> system.end(-1));
        stillBusy(system);
    }

    private static final int[] NO_PROGRAM = {LOW, -8, -1, 8, 9, 16, HIGH};

    /** Promise 4. */
    private static void textOfEachProgram() {
        HomeSystem system = new HomeSystem();
        for (int k = 0; k < 8; k++) {
            Check.right(system, k, "int main(int n) { return n * 10 + " + k + "; }");
        }
        for (int k = 0; k < 8; k++) {
            Check.due("run " + k, system.run(k, 5, 1, 99), HomeSystem.DONE);
            Check.due("value " + k, system.value(0), 50 + k);
        }
        // one becomes empty, the others stay
        Check.due("none", Check.text(system, 3, "int"), HomeSystem.NONE);
        Check.due("wrong", Check.text(system, 5, "int x, x;"), 1);
        for (int k = 0; k < 8; k++) {
            Check.due("run " + k, system.run(k, 5, 1, 99), k == 3 || k == 5 ? HomeSystem.NONE : HomeSystem.DONE);
        }
    }

    private static void textThatIsRefused() {
        for (int k = 0; k < NO_PROGRAM.length; k++) {
            int i = NO_PROGRAM[k];
            HomeSystem system = busy();
            Check.refused("text " + i, Check.INDEX, system, () -> system.text(i));
            stillBusy(system);
        }
    }

    /** "and the tape is empty", whatever is told. */
    private static void textEmptiesTheTape() {
        String[] texts = {"", RIGHT, "int main(int n) { return x; }", "int main(int n) {", "@"};
        for (int k = 0; k < texts.length; k++) {
            HomeSystem system = new HomeSystem();
            Check.text(system, 0, texts[k]);
            Check.throwing("behind " + texts[k], Check.ARGUMENT, () -> system.end(1));
            Check.throwing("behind " + texts[k], 0, () -> system.end(0));
            Check.right(system, 1, RIGHT);
        }
    }

    /** Promise 5: "of what text told last", "0 when nothing was, and at first". */
    private static void placeOfTheLastText() {
        HomeSystem system = new HomeSystem();
        Check.due("at first", system.place(), 0);
        Check.right(system, 0, RIGHT);
        Check.due("nothing", system.place(), 0);
        Check.text(system, 0, "@");
        Check.due("the first byte", system.place(), 1);
        Check.text(system, 0, " @");
        Check.due("the second byte", system.place(), 2);
        Check.text(system, 0, Check.times(" ", 2047) + "@");
        Check.due("the last byte of a full tape", system.place(), 2048);
        Check.text(system, 0, Check.times(" ", 2048));
        Check.due("behind a full tape", system.place(), 2049);
        Check.text(system, 0, "");
        Check.due("behind an empty tape", system.place(), 1);
        Check.words(system, 1, 0x73);
        Check.due("raw tells nothing", system.place(), 1);
        system.run(1, 0, 1, 1);
        system.turn(300);
        system.setDisk(3, 3);
        Check.due("nor does anything else", system.place(), 1);
        Check.right(system, 0, RIGHT);
        Check.due("nothing", system.place(), 0);
    }

    /** Promise 6. */
    private static void rawOfEachProgram() {
        HomeSystem system = new HomeSystem();
        for (int k = 0; k < 8; k++) {
            Check.words(system, k, k << 20 | 10 << 15 | 10 << 7 | 0x13, 0x73);
        }
        for (int k = 0; k < 8; k++) {
            Check.due("run " + k, system.run(k, 5, 1, 0), HomeSystem.DONE);
            Check.due("value " + k, system.value(0), 5 + k);
        }
        Check.due("no words", system.raw(3), HomeSystem.NONE);
        Check.due("run 3", system.run(3, 5, 1, 0), HomeSystem.NONE);
        Check.due("run 2", system.run(2, 5, 1, 0), HomeSystem.DONE);
        Check.due("run 4", system.run(4, 5, 1, 0), HomeSystem.DONE);
    }

    private static void rawThatIsRefused() {
        for (int k = 0; k < NO_PROGRAM.length; k++) {
            int i = NO_PROGRAM[k];
            HomeSystem system = busy();
            Check.refused("raw " + i, Check.INDEX, system, () -> system.raw(i));
            stillBusy(system);
        }
    }

    /** Promise 7: "IllegalArgumentException when n is not 200 .. 100000." */
    private static void turns() {
        int[] refused = {LOW, -200, -1, 0, 1, 198, 199, 100001, 100002, HIGH};
        for (int k = 0; k < refused.length; k++) {
            int n = refused[k];
            HomeSystem system = busy();
            Check.refused("turn " + n, Check.ARGUMENT, system, () -> system.turn(n));
            stillBusy(system);
        }
        int[] right = {200, 201, 1000, 99999, 100000};
        for (int k = 0; k < right.length; k++) {
            int n = right[k];
            HomeSystem system = busy();
            Check.throwing("turn " + n, 0, () -> system.turn(n));
            stillBusy(system);
        }
    }

    /** Promise 8. */
    private static void runOfEachProgram() {
        int[] works = {0, 1, 99, 100};
        int[] stacks = {0, 1, 6, 7, 511, 512};
        for (int w = 0; w < works.length; w++) {
            for (int s = 0; s < stacks.length; s++) {
                HomeSystem system = new HomeSystem();
                Check.right(system, 7, RIGHT);
                int want = works[w] == 0 ? HomeSystem.WORN : stacks[s] < 7 ? HomeSystem.DEEP : HomeSystem.DONE;
                Check.due("work " + works[w] + ", stack " + stacks[s], system.run(7, 1, works[w], stacks[s]), want);
                Check.due("outcome", system.outcome(0), want);
                Check.due("value", system.value(0), want == HomeSystem.DONE ? 8 : 0);
                Check.due("life", system.life(), 6000 - 30 - works[w]);
            }
        }
        int[] begun = {LOW, -1, 0, 1, HIGH};
        for (int k = 0; k < begun.length; k++) {
            HomeSystem system = new HomeSystem();
            Check.right(system, 0, "int main(int n) { return n; }");
            Check.due("run with " + begun[k], system.run(0, begun[k], 1, 6), HomeSystem.DONE);
            Check.due("value", system.value(0), begun[k]);
        }
    }

    private static void runThatIsRefused() {
        for (int k = 0; k < NO_PROGRAM.length; k++) {
            int i = NO_PROGRAM[k];
            HomeSystem system = busy();
            Check.refused("run " + i, Check.INDEX, system, () -> system.run(i, 1, 1, 1));
            stillBusy(system);
        }
        int[] works = {LOW, -1, 101, 102, HIGH};
        for (int k = 0; k < works.length; k++) {
            int work = works[k];
            HomeSystem system = busy();
            Check.refused("work " + work, Check.ARGUMENT, system, () -> system.run(0, 1, work, 1));
            Check.refused("work " + work + " of an empty program", Check.ARGUMENT, system, () -> system.run(3, 1, work, 1));
        }
        int[] stacks = {LOW, -1, 513, 514, HIGH};
        for (int k = 0; k < stacks.length; k++) {
            int stack = stacks[k];
            HomeSystem system = busy();
            Check.refused("stack " + stack, Check.ARGUMENT, system, () -> system.run(0, 1, 1, stack));
            Check.refused("stack " + stack + " of an empty program", Check.ARGUMENT, system, () -> system.run(3, 1, 1, stack));
        }
        HomeSystem system = busy();
        Check.throwing("work", Check.ARGUMENT, () -> system.run(0, 1, 101, 512));
        Check.throwing("stack", Check.ARGUMENT, () -> system.run(0, 1, 100, 513));
        stillBusy(system);
    }

    /** "NONE when program i is empty (nothing is booted: the last run is the one before)". */
    private static void runOfAnEmptyProgram() {
        HomeSystem system = busy();
        int life = system.life();
        for (int k = 3; k < 8; k++) {
            Check.due("run " + k, system.run(k, 1, 100, 512), HomeSystem.NONE);
        }
        Check.due("life", system.life(), life);
        Check.due("outcome 0", system.outcome(0), HomeSystem.WAITS);
        Check.due("outcome 2", system.outcome(2), HomeSystem.ENDED);
        Check.due("value 2", system.value(2), 15);
        Check.due("paper", system.paper(0), 2);
        Check.due("paperAt", system.paperAt(0, 1), -1);
        Check.due("unread", system.unread(1, true), 1);
        stillBusy(system);
    }

    private static HomeSystem living(int life) {
        HomeSystem system = new HomeSystem();
        Check.right(system, 0, "int main(int n) { return n; }");
        // runs of 130 and of 30, and one of what is left between them
        int left = 6000 - life;
        while (left >= 160) {
            system.run(0, 77, 100, 6);
            left -= 130;
        }
        if (left > 130) {
            system.run(0, 77, left - 60, 6);
            left = 30;
        }
        if (left > 0) {
            system.run(0, 77, left - 30, 6);
        }
        Check.due("life", system.life(), life);
        return system;
    }

    /** "ArithmeticException when its life has not so much any more (also when program i is empty, though that takes nothing)". */
    private static void lifeThatJustSuffices() {
        int[] works = {0, 1, 2, 50, 99, 100};
        for (int k = 0; k < works.length; k++) {
            int work = works[k];
            for (int more = -1; more < 2; more++) {
                HomeSystem system = living(30 + work + more);
                if (more < 0) {
                    Check.refused("work " + work + " with 1 too little", Check.ARITHMETIC, system, () -> system.run(0, 5, work, 6));
                    Check.throwing("an empty one", Check.ARITHMETIC, () -> system.run(1, 5, work, 6));
                    if (work > 0) {
                        Check.due("with 1 less", system.run(0, 5, work - 1, 6), work == 1 ? HomeSystem.WORN : HomeSystem.DONE);
                        Check.due("life", system.life(), 0);
                    }
                } else {
                    Check.due("an empty one", system.run(1, 5, work, 6), HomeSystem.NONE);
                    Check.due("takes nothing", system.life(), 30 + work + more);
                    Check.due("work " + work, system.run(0, 5, work, 6), work == 0 ? HomeSystem.WORN : HomeSystem.DONE);
                    Check.due("life", system.life(), more);
                    Check.throwing("no more", Check.ARITHMETIC, () -> system.run(0, 5, 0, 6));
                }
            }
        }
        // a run takes its work whether it is used or not
        HomeSystem system = new HomeSystem();
        Check.words(system, 0, 0);
        Check.due("FAULT at once", system.run(0, 0, 100, 0), HomeSystem.FAULT);
        Check.due("life", system.life(), 5870);
        Check.right(system, 0, "int main(int n) { spawn(0, 0); spawn(0, 0); }");
        system.run(0, 0, 10, 99);
        Check.due("children take nothing of it", system.life(), 5830);
    }

    private static void orderOfRefusals() {
        HomeSystem system = living(29);
        Check.throwing("program, work, stack, life", Check.INDEX, () -> system.run(8, 0, 101, 513));
        Check.throwing("program, life", Check.INDEX, () -> system.run(-1, 0, 100, 512));
        Check.throwing("work, life", Check.ARGUMENT, () -> system.run(0, 0, 101, 512));
        Check.throwing("stack, life", Check.ARGUMENT, () -> system.run(0, 0, 100, -1));
        Check.throwing("life", Check.ARITHMETIC, () -> system.run(0, 0, 0, 0));
        Check.throwing("life of an empty one", Check.ARITHMETIC, () -> system.run(7, 0, 0, 0));
        Check.due("life", system.life(), 29);
    }

    private static final int[] NO_PROCESS = {LOW, -13, -1, 13, 14, 26, HIGH};

    /** Promises 9, 10, 11: "p is not 0 .. 12". */
    private static void processesThatAreThere() {
        HomeSystem[] systems = {new HomeSystem(), busy()};
        for (int s = 0; s < systems.length; s++) {
            HomeSystem system = systems[s];
            for (int k = 0; k < NO_PROCESS.length; k++) {
                int p = NO_PROCESS[k];
                Check.throwing("outcome " + p, Check.INDEX, () -> system.outcome(p));
                Check.throwing("value " + p, Check.INDEX, () -> system.value(p));
                Check.throwing("paper " + p, Check.INDEX, () -> system.paper(p));
                Check.throwing("paperAt " + p, Check.INDEX, () -> system.paperAt(p, 0));
            }
            for (int k = 0; k < 13; k++) {
                int p = k;
                boolean begun = s == 1 && (p < 3 || p == 4);
                Check.throwing("outcome " + p, 0, () -> system.outcome(p));
                Check.due("begun " + p, system.outcome(p) == HomeSystem.NONE ? 0 : 1, begun ? 1 : 0);
                if (!begun) {
                    Check.due("value " + p, system.value(p), 0);
                    Check.due("paper " + p, system.paper(p), 0);
                }
            }
        }
        HomeSystem system = busy();
        Check.refused("outcome 13", Check.INDEX, system, () -> system.outcome(13));
        Check.refused("value -1", Check.INDEX, system, () -> system.value(-1));
        stillBusy(system);
        HomeSystem other = busy();
        Check.refused("paper 13", Check.INDEX, other, () -> other.paper(13));
        stillBusy(other);
    }

    /** Promise 12: "there is no such ... number". */
    private static void numbersOnPaper() {
        for (int count = 0; count < 4; count++) {
            HomeSystem system = new HomeSystem();
            Check.right(system, 0, "int main(int n) { for (int i = 0; i < n; i++) put(50 + i); }");
            Check.due("run", system.run(0, count, 20, 99), HomeSystem.DONE);
            Check.due("paper", system.paper(0), count);
            int[] refused = {LOW, -1, count, count + 1, 255, 256, HIGH};
            for (int k = 0; k < refused.length; k++) {
                int i = refused[k];
                Check.throwing("paperAt " + i + " of " + count, Check.INDEX, () -> system.paperAt(0, i));
            }
            for (int i = 0; i < count; i++) {
                Check.due("paperAt " + i, system.paperAt(0, i), 50 + i);
            }
            Check.throwing("paperAt of nobody", Check.INDEX, () -> system.paperAt(1, 0));
        }
        // the process is looked at, not the number of another one
        HomeSystem system = busy();
        Check.throwing("paperAt 0, 1", 0, () -> system.paperAt(0, 1));
        Check.throwing("paperAt 1, 1", Check.INDEX, () -> system.paperAt(1, 1));
        Check.throwing("paperAt 1, 0", 0, () -> system.paperAt(1, 0));
        Check.refused("paperAt 0, 2", Check.INDEX, system, () -> system.paperAt(0, 2));
        stillBusy(system);
    }

    /** Promise 13: "p is not 1 .. 12". */
    private static void rowsThatAreThere() {
        HomeSystem[] systems = {new HomeSystem(), busy()};
        for (int s = 0; s < systems.length; s++) {
            HomeSystem system = systems[s];
            for (int k = 0; k < NO_PROCESS.length; k++) {
                int p = NO_PROCESS[k];
                Check.throwing("unread " + p, Check.INDEX, () -> system.unread(p, true));
                Check.throwing("unread " + p, Check.INDEX, () -> system.unread(p, false));
            }
            Check.throwing("unread 0", Check.INDEX, () -> system.unread(0, true));
            Check.throwing("unread 0", Check.INDEX, () -> system.unread(0, false));
            for (int p = 1; p < 13; p++) {
                Check.due("unread up " + p, system.unread(p, true), s == 1 && p == 1 ? 1 : 0);
                Check.due("unread down " + p, system.unread(p, false), s == 1 && p == 1 ? 1 : 0);
            }
        }
        HomeSystem system = busy();
        Check.refused("unread 0", Check.INDEX, system, () -> system.unread(0, true));
        stillBusy(system);
    }

    /** Promises 14, 15: "i is not 0 .. 127". */
    private static void wordsOfTheDisk() {
        int[] refused = {LOW, -128, -1, 128, 129, 256, HIGH};
        for (int k = 0; k < refused.length; k++) {
            int i = refused[k];
            HomeSystem system = busy();
            Check.refused("disk " + i, Check.INDEX, system, () -> system.disk(i));
            stillBusy(system);
            HomeSystem other = busy();
            Check.refused("setDisk " + i, Check.INDEX, other, () -> other.setDisk(i, 99));
            stillBusy(other);
        }
        HomeSystem system = new HomeSystem();
        Check.throwing("setDisk -1", Check.INDEX, () -> system.setDisk(-1, 9));
        Check.throwing("setDisk 128", Check.INDEX, () -> system.setDisk(128, 9));
        for (int i = 0; i < 128; i++) {
            Check.due("disk " + i, system.disk(i), 0);
        }
    }

    private static void everyWordOfTheDisk() {
        int[] values = {LOW, -1, 0, 1, HIGH};
        HomeSystem system = new HomeSystem();
        for (int i = 0; i < 128; i++) {
            system.setDisk(i, values[i % 5]);
        }
        for (int i = 0; i < 128; i++) {
            Check.due("disk " + i, system.disk(i), values[i % 5]);
        }
        HomeSystem other = new HomeSystem();
        for (int i = 0; i < 128; i += 127) {
            other.setDisk(i, 5);
            other.setDisk(i, 6);
        }
        for (int i = 0; i < 128; i++) {
            Check.due("disk " + i, other.disk(i), i == 0 || i == 127 ? 6 : 0);
        }
    }

    /** What is told of processes is told of the last run alone. */
    private static void lastRunCounts() {
        HomeSystem system = busy();
        Check.due("text", system.text(4), 0);
        Check.due("what was told stays behind text", system.outcome(2), HomeSystem.ENDED);
        Check.due("run", system.run(4, 1, 1, 99), HomeSystem.DONE);
        Check.due("value", system.value(0), 8);
        Check.due("paper", system.paper(0), 0);
        for (int p = 1; p < 13; p++) {
            Check.due("outcome " + p, system.outcome(p), HomeSystem.NONE);
            Check.due("value " + p, system.value(p), 0);
            Check.due("paper " + p, system.paper(p), 0);
            Check.due("unread up " + p, system.unread(p, true), 0);
            Check.due("unread down " + p, system.unread(p, false), 0);
        }
        // rows begin empty, papers too
        Check.due("run", system.run(0, 9, 20, 99), HomeSystem.WAITS);
        Check.due("unread up", system.unread(1, true), 1);
        Check.due("unread down", system.unread(1, false), 1);
        Check.due("paper", system.paper(0), 2);
    }

    /** What is told of each of thirteen processes. */
    private static int[] processes(HomeSystem system) {
        int[] all = new int[13 * 6];
        for (int p = 0; p < 13; p++) {
            all[6 * p] = system.outcome(p);
            all[6 * p + 1] = system.value(p);
            all[6 * p + 2] = system.paper(p);
            all[6 * p + 3] = system.paperAt(p, 0);
            all[6 * p + 4] = p == 0 ? 0 : system.unread(p, true);
            all[6 * p + 5] = p == 0 ? 0 : system.unread(p, false);
        }
        return all;
    }

    /** "in the last run": whatever comes behind it that is no run leaves what is told of its processes. */
    private static void lastRunStays() {
        HomeSystem system = new HomeSystem();
        Check.right(system, 0, "int main(int n) { put(n + 100); for (int i = 1; i < 4; i++) if (spawn(0, n * 3 + i) > 0) send(i, i); while (n) send(0, n); wait(1); }");
        Check.due("all wait: process 0 for its child, the others as their rows are full", system.run(0, 0, 40, 99), HomeSystem.WAITS);
        int[] before = processes(system);
        Check.due("the last process", before[6 * 12], HomeSystem.WAITS);
        Check.due("what it wrote", before[6 * 12 + 3], 112);
        Check.due("unread up", before[6 * 12 + 4], 4);
        Check.due("unread down", before[6 * 12 + 5], 1);
        Check.tape(system, Check.bytes(RIGHT));
        Check.due("text", system.text(0), 0);
        Check.due("no text", Check.text(system, 1, "int"), HomeSystem.NONE);
        Check.due("raw", system.raw(0), HomeSystem.NONE);
        Check.words(system, 2, 1, 2, 3);
        system.turn(200);
        system.setDisk(5, 6);
        Check.due("empty", system.run(0, 0, 1, 1), HomeSystem.NONE);
        int[] behind = processes(system);
        for (int i = 0; i < before.length; i++) {
            Check.due("answer " + i % 6 + " of process " + i / 6 + " stays", behind[i], before[i]);
        }
    }

    /** Programs stay from run to run, and what one does to its variables does not. */
    private static void programsStay() {
        HomeSystem system = new HomeSystem();
        Check.right(system, 0, "int x = 5, a[3] = { 1 }; char c[4] = \"ab\"; int main(int n) { x += n; a[0] += n; a[2] += n; c[0] += n; c[3] += n; return x * 1000 + a[0] * 100 + a[2] * 10 + c[0] - 'a' + c[3]; }");
        for (int k = 0; k < 5; k++) {
            Check.due("run " + k, system.run(0, 1, 5, 99), HomeSystem.DONE);
            Check.due("value " + k, system.value(0), 6212);
        }
        // a larger text in between leaves nothing behind
        Check.right(system, 1, "int y[4096], z[4096]; int main(int n) { y[0] = y[1] = y[2] = y[3] = y[4] = z[4095] = -1; return y[0]; }");
        Check.due("run", system.run(1, 1, 5, 99), HomeSystem.DONE);
        Check.due("run", system.run(0, 1, 5, 99), HomeSystem.DONE);
        Check.due("value", system.value(0), 6212);
        Check.right(system, 2, "int y[9]; char z; int main(int n) { return y[0] + y[1] + y[2] + y[3] + y[4] + y[8] + z; }");
        Check.due("run", system.run(2, 1, 5, 99), HomeSystem.DONE);
        Check.due("value", system.value(0), 0);
    }

    /** "An object is used for at most 512 calls": the last of them is as good as the first. */
    private static void fiveHundredAndTwelveCalls() {
        HomeSystem system = new HomeSystem();
        int calls = 0;
        for (int k = 0; k < 127; k++) {
            // "int f(){} " and blanks: a text without main
            system.feed(0x696e7420, 0x6628297b, 0x7d202020, 0x20202020, 0x20202020);
            system.end(10);
            Check.due("text", system.text(k % 8), 12);
            Check.due("place", system.place(), 11);
            calls += 4;
        }
        system.feed(0x73000000, 0, 0, 0, 0);
        Check.due("raw", system.raw(0), 5);
        Check.due("run", system.run(0, 3, 1, 0), HomeSystem.DONE);
        Check.due("value", system.value(0), 3);
        Check.due("calls", calls + 4, 512);
    }

    /** Nothing of one object is seen in another. */
    private static void objectsOfTheirOwn() {
        HomeSystem first = busy();
        HomeSystem second = new HomeSystem();
        Check.due("life", second.life(), 6000);
        Check.due("outcome", second.outcome(0), HomeSystem.NONE);
        Check.due("disk", second.disk(0), 0);
        Check.due("place", second.place(), 0);
        Check.due("program", second.run(0, 0, 1, 1), HomeSystem.NONE);
        Check.due("tape", second.raw(0), HomeSystem.NONE);
        Check.right(second, 0, "int main(int n) { return 1; }");
        Check.due("run", second.run(0, 0, 1, 99), HomeSystem.DONE);
        second.setDisk(0, 77);
        Check.due("disk of the first", first.disk(0), 11);
        Check.due("outcome of the first", first.outcome(0), HomeSystem.WAITS);
        stillBusy(first);
    }
}
