/** What all tests share: counting answers that are not due, and ways to bring programs onto a tape. */
final class Check {
    static final int STATE = 1, ARGUMENT = 2, INDEX = 3, ARITHMETIC = 4;
    private static int wrong = 0;
    private static int asked = 0;

    private Check() {
    }

    static void due(String what, long got, long want) {
        asked++;
        if (got != want) {
            wrong++;
            System.out.println(what + " answered " + got + ", due is " + want);
        }
    }

    /** A call that should throw; the call itself answers through its interface. */
    interface Call {
        void make();
    }

    static void throwing(String what, int want, Call call) {
        int got = 0;
        try {
            call.make();
        } catch (IllegalStateException e) {
            got = e.getClass() == IllegalStateException.class ? STATE : -1;
        } catch (IllegalArgumentException e) {
            got = e.getClass() == IllegalArgumentException.class ? ARGUMENT : -1;
        } catch (IndexOutOfBoundsException e) {
            got = e.getClass() == IndexOutOfBoundsException.class ? INDEX : -1;
        } catch (ArithmeticException e) {
            got = ARITHMETIC;
        }
        due(what + " throws (1 state, 2 argument, 3 index, 4 arithmetic)", got, want);
    }

    /** A call that is refused: it throws, and all that can be asked is as it was. */
    static void refused(String what, int want, HomeSystem system, Call call) {
        int[] before = state(system);
        throwing(what, want, call);
        int[] behind = state(system);
        for (int i = 0; i < before.length; i++) {
            due(what + " is refused and leaves answer " + i, behind[i], before[i]);
        }
    }

    /** What can be asked without changing anything, but for most of the disk and of the papers: some hundred calls. */
    private static int[] state(HomeSystem system) {
        int[] all = new int[100];
        int at = 0;
        all[at++] = system.life();
        all[at++] = system.place();
        all[at++] = system.pages();
        all[at++] = system.wrong();
        for (int i = 0; i < 128; i += 16) {
            all[at++] = system.disk(i);
        }
        all[at++] = system.disk(127);
        for (int p = 0; p < 13; p++) {
            int written = system.paper(p);
            all[at++] = system.outcome(p);
            all[at++] = system.value(p);
            all[at++] = written;
            all[at++] = written == 0 ? 0 : system.paperAt(p, Math.min(255, written - 1));
        }
        for (int p = 1; p < 13; p++) {
            all[at++] = system.unread(p, true);
            all[at++] = system.unread(p, false);
        }
        return all;
    }

    /** Brings bytes onto an empty tape; where the last twenty do not fit, some before them are fed again. */
    static void tape(HomeSystem system, byte[] bytes) {
        for (int at = 0; at < bytes.length; at += 20) {
            int from = at + 20 > 2048 ? bytes.length - 20 : at;
            int[] words = new int[5];
            for (int i = 0; i < 20; i++) {
                int b = from + i < bytes.length ? bytes[from + i] & 255 : 0;
                words[i / 4] |= b << 24 - 8 * (i % 4);
            }
            if (from < at) {
                system.end(from);
            }
            system.feed(words[0], words[1], words[2], words[3], words[4]);
        }
        system.end(bytes.length);
    }

    static byte[] bytes(String text) {
        byte[] bytes = new byte[text.length()];
        for (int i = 0; i < bytes.length; i++) {
            bytes[i] = (byte) text.charAt(i);
        }
        return bytes;
    }

    static int text(HomeSystem system, int program, String text) {
        tape(system, bytes(text));
        return system.text(program);
    }

    /** A text that is right. */
    static void right(HomeSystem system, int program, String text) {
        due("text " + text, text(system, program, text), 0);
        due("place " + text, system.place(), 0);
    }

    /** A text that is none or wrong; the byte ` marks the place and is left out. */
    static void wrongText(int want, String marked) {
        int at = marked.indexOf('`');
        String text = at < 0 ? marked : marked.substring(0, at) + marked.substring(at + 1);
        HomeSystem system = new HomeSystem();
        due("text " + marked, text(system, 0, text), want);
        due("place " + marked, system.place(), (at < 0 ? text.length() : at) + 1);
        due("run " + marked, system.run(0, 0, 1, 1), HomeSystem.NONE);
    }

    /** What text and place tell of a text, and that its program is empty if it is not right. */
    static void told(String text, int want, int place) {
        HomeSystem system = new HomeSystem();
        due("text " + text, text(system, 0, text), want);
        due("place " + text, system.place(), place);
        if (want != 0) {
            due("run " + text, system.run(0, 0, 1, 1), HomeSystem.NONE);
        }
    }

    /** A text that can't stand, at ` or at its end. */
    static void none(String marked) {
        wrongText(HomeSystem.NONE, marked);
    }

    static void words(HomeSystem system, int program, int... words) {
        byte[] bytes = new byte[4 * words.length];
        for (int i = 0; i < bytes.length; i++) {
            bytes[i] = (byte) (words[i / 4] >>> 8 * (i % 4));
        }
        tape(system, bytes);
        due("raw", system.raw(program), words.length);
    }

    /** What a process wrote. */
    static void paper(String what, HomeSystem system, int process, int... numbers) {
        due(what + ": paper", system.paper(process), numbers.length);
        for (int i = 0; i < numbers.length && i < system.paper(process); i++) {
            due(what + ": paperAt " + i, system.paperAt(process, i), numbers[i]);
        }
    }

    /** The value of a text that is right and ends DONE, begun with x, with all the work and stack there can be. */
    static void value(String text, int x, int want) {
        HomeSystem system = new HomeSystem();
        right(system, 0, text);
        due("run " + text, system.run(0, x, 100, 512), HomeSystem.DONE);
        due("value " + text, system.value(0), want);
    }

    /** What main gives when it only gives an expression of n. */
    static void expression(String expression, int n, int want) {
        value("int main(int n) { return " + expression + "; }", n, want);
    }

    static void outcome(String text, int x, int work, int stack, int want) {
        HomeSystem system = new HomeSystem();
        right(system, 0, text);
        due("run with work " + work + ", stack " + stack + " of " + text, system.run(0, x, work, stack), want);
        due("outcome of " + text, system.outcome(0), want);
        noValue(text, system, 0);
    }

    /** A process that neither came to main's end nor to a call of end has the value 0. */
    static void noValue(String what, HomeSystem system, int process) {
        int how = system.outcome(process);
        if (how != HomeSystem.DONE && how != HomeSystem.ENDED) {
            due("value of process " + process + " of " + what, system.value(process), 0);
        }
    }

    static String times(String text, int count) {
        StringBuilder all = new StringBuilder();
        for (int i = 0; i < count; i++) {
            all.append(text);
        }
        return all.toString();
    }

    /** Ends a test's main. */
    static void end(String test) {
        System.out.println(test + ": " + (asked - wrong) + " answers as due, " + wrong + " not");
        if (wrong != 0 || asked == 0) {
            System.exit(1);
        }
    }
}
