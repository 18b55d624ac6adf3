import java.util.function.Supplier;

/** The edges of a run, and of what tells about it. */
final class RunEdges extends Edges {
    private static final Supplier<LinkMill> BUSY = Checks::busy;

    private RunEdges() {
    }

    static void all() {
        asRead();
        noWordOfTheCode();
        noInstruction();
        loadsAndStores();
        nothingChanges();
        halted();
        upToN();
        howMany();
        numberRefused();
        nothingRead();
        register();
        memory();
        memoryRefused();
        shown();
        nothingShown();
        about();
        aboutNone();
        lastCall();
    }

    // ---- Terms

    private static void asRead() {
        holds(RUN, "TO RUN: code and data are as read; all registers 0, PC the entry.");
        LinkMill x = sound(68, 64, 2, 128, 2);
        int[] words = {-1, wordOf(STORE, 0, 0, 128), LEAST, GREATEST};
        for (int i = 0; i < 4; i++) {
            setImageWord(x, 36 + 4 * i, words[i]);
        }
        same("read", x.read(), 0);
        x.stretch(-x.about(0));
        same("the first of the code", x.memory(64), -1);
        same("the last of the code", x.memory(68), words[1]);
        same("the first of the data", x.memory(128), LEAST);
        same("the last of the data", x.memory(132), GREATEST);
        for (int r = 0; r < 32; r++) {
            same("register " + r, x.register(r), 0);
        }
        same("PC is the last word", x.about(2), 68);
        same("it can be run without the image", x.run(1), 1);
        same("stored", x.memory(128), 0);
        LinkMill y = sound(64, 64, 1, 64 + 64, 0);
        y.read();
        same("PC is the only word", y.about(2), 64);
    }

    /** A machine at 128 that goes to an address, with 2 words of code and 2 of data, at 192. */
    private static LinkMill goneTo(int address) {
        LinkMill x = machine(128, new int[] {wordOf(LOAD, 1, 0, 192), wordOf(BACK, 2, 1, 0)}, 192, address, 0);
        same("run", x.run(2), 2);
        same("runs", x.about(1), RUNS);
        same("PC", x.about(2), address);
        return x;
    }

    private static void noWordOfTheCode() {
        holds(RUN, "An instruction at an address that is no word of the code, or none: FAILED,");
        int[] none = {124, 127, 129, 130, 131, 133, 135, 136, 140, 188, 192, 196, 200, 0, -4, -128, LEAST, LEAST + 128,
            GREATEST, GREATEST - 3};
        for (int address : none) {
            LinkMill x = goneTo(address);
            same("run at " + address, x.run(500), 1);
            same("FAILED at " + address, x.about(1), FAILED);
            same("PC stays", x.about(2), address);
        }
        int[] words = {128, 132};
        for (int address : words) {
            LinkMill x = goneTo(address);
            same("run at " + address, x.run(1), 1);
            same("a word of the code", x.about(1), RUNS);
        }
        LinkMill y = machine(0, new int[] {wordOf(PLUS, 1, 0, 1)}, 64);
        same("right behind the only word", y.run(500), 2);
        same("FAILED", y.about(1), FAILED);
        same("PC stays", y.about(2), 4);
        int last = 2147483580;
        LinkMill z = machine(last, new int[] {wordOf(PLUS, 1, 0, 1)}, last + 4, 0);
        same("right behind the last word that can be", z.run(500), 2);
        same("PC stays", z.about(2), last + 4);
    }

    private static void noInstruction() {
        holds(RUN, "An instruction at an address that is no word of the code, or none: FAILED,");
        for (int op = 0; op < 32; op++) {
            LinkMill x = machine(0, new int[] {op}, 64);
            same("run of " + op, x.run(1), 1);
            // With nothing but op, LOAD is of the code's own word, and STORE into it.
            int due = op == HALT ? HALTED : op > SHOW || op == STORE ? FAILED : RUNS;
            same("op " + op, x.about(1), due);
        }
    }

    /** A machine at 128 that has got an address in register 1, with 2 words of code and 2 of data, at 192. */
    private static LinkMill at(int op, int address) {
        LinkMill x = machine(128, new int[] {wordOf(LOAD, 1, 0, 192), wordOf(op, 1, 1, 0)}, 192, address, 7);
        same("run", x.run(2), 2);
        return x;
    }

    private static void loadsAndStores() {
        holds(RUN, "as is LOAD or STORE at an address that is no word of code or data, or STORE in the code;");
        int[] none = {124, 127, 129, 130, 131, 135, 136, 140, 188, 191, 193, 194, 195, 197, 199, 200, 204, 0, 4, -4,
            -128, -192, LEAST, LEAST + 128, LEAST + 192, GREATEST, GREATEST - 3};
        int[] both = {LOAD, STORE};
        for (int address : none) {
            for (int op : both) {
                LinkMill x = at(op, address);
                same("op " + op + " at " + address, x.about(1), FAILED);
                same("register stays", x.register(1), address);
                same("PC stays", x.about(2), 132);
                same("data stays", x.memory(192), address);
                same("data stays", x.memory(196), 7);
            }
        }
        int[] words = {128, 132, 192, 196};
        int[] held = {wordOf(LOAD, 1, 0, 192), wordOf(LOAD, 1, 1, 0), 192, 7};
        for (int i = 0; i < 4; i++) {
            LinkMill x = at(LOAD, words[i]);
            same("LOAD at " + words[i], x.register(1), held[i]);
            same("runs", x.about(1), RUNS);
            LinkMill y = at(STORE, words[i]);
            same("STORE at " + words[i], y.about(1), i < 2 ? FAILED : RUNS);
            same("stored", y.memory(words[i]), i == 0 ? held[0] : i == 1 ? wordOf(STORE, 1, 1, 0) : words[i]);
        }
        LinkMill z = machine(0, new int[] {wordOf(LOAD, 0, 0, 4)}, 64);
        same("LOAD into register 0", z.run(500), 1);
        same("FAILED", z.about(1), FAILED);
    }

    private static void nothingChanges() {
        holds(RUN, "then nothing changes, and PC stays.");
        int[] ends = {19, wordOf(LOAD, 1, 0, 60), wordOf(STORE, 1, 0, 60), wordOf(STORE, 1, 0, 0)};
        for (int end : ends) {
            int[] code = {wordOf(PLUS, 1, 0, 5), wordOf(SHOW, 1, 0, 0), wordOf(STORE, 1, 0, 64), end};
            LinkMill x = machine(0, code, 64, 3);
            for (int turn = 0; turn < 3; turn++) {
                same("run", x.run(500), turn == 0 ? 4 : 0);
                same("FAILED", x.about(1), FAILED);
                same("PC stays", x.about(2), 12);
                same("instructions", x.about(3), 4);
                same("numbers", x.about(4), 1);
                same("shown", x.shown(0), 5);
                same("data", x.memory(64), 5);
                same("code", x.memory(0), code[0]);
                for (int r = 0; r < 32; r++) {
                    same("register", x.register(r), r == 1 ? 5 : 0);
                }
            }
        }
    }

    private static void halted() {
        holds(RUN, "HALT: HALTED, PC stays.");
        int[] starts = {0, 1000000000, 2147483580};
        for (int start : starts) {
            LinkMill x = machine(start, new int[] {HALT}, (start + 4 + 63) / 64 * 64);
            same("run", x.run(500), 1);
            for (int turn = 0; turn < 2; turn++) {
                same("HALTED", x.about(1), HALTED);
                same("PC stays", x.about(2), start);
                same("instructions", x.about(3), 1);
                same("run again", x.run(500), 0);
            }
        }
    }

    // ---- promise 12

    /** Five instructions, the fifth of which is HALT or fails. */
    private static LinkMill five(int last) {
        return machine(0, new int[] {wordOf(PLUS, 1, 1, 1), wordOf(PLUS, 1, 1, 1), wordOf(PLUS, 1, 1, 1),
            wordOf(PLUS, 1, 1, 1), last}, 64);
    }

    private static void upToN() {
        holds("Promise 12", "Up to n instructions (that which ends it counts).");
        int[] lasts = {HALT, 19};
        for (int last : lasts) {
            int[] numbers = {1, 4, 5, 6, 500};
            for (int n : numbers) {
                LinkMill x = five(last);
                same("run " + n, x.run(n), Math.min(n, 5));
                same("instructions", x.about(3), Math.min(n, 5));
                same("runs", x.about(1), n < 5 ? RUNS : last == HALT ? HALTED : FAILED);
                same("register", x.register(1), Math.min(n, 4));
                same("PC", x.about(2), 4 * Math.min(n, 4));
            }
        }
        LinkMill y = machine(0, new int[] {wordOf(PLUS, 1, 1, 1), wordOf(CALL, 0, 0, -2)}, 64);
        same("one that does not end", y.run(500), 500);
        same("register", y.register(1), 250);
        same("the least", y.run(1), 1);
        same("register", y.register(1), 251);
    }

    private static void howMany() {
        holds("Promise 12", "Answers how many.");
        LinkMill x = five(HALT);
        for (int i = 1; i <= 5; i++) {
            same("one at a time", x.run(1), 1);
            same("instructions", x.about(3), i);
        }
        same("none when it has halted", x.run(1), 0);
        same("none when it has halted", x.run(500), 0);
        same("instructions", x.about(3), 5);
        LinkMill y = five(19);
        same("all", y.run(500), 5);
        same("none when it has failed", y.run(1), 0);
        same("none when it has failed", y.run(500), 0);
        same("instructions", y.about(3), 5);
    }

    private static void numberRefused() {
        holds("Promise 12", "IllegalArgumentException: n is not 1 .. 500.");
        int[] none = {0, -1, 501, LEAST, GREATEST};
        for (int n : none) {
            refused("n " + n, ARGUMENT, BUSY, x -> x.run(n));
            refused("n " + n + ", nothing was read", ARGUMENT, LinkMill::new, x -> x.run(n));
            LinkMill y = five(HALT);
            y.run(500);
            fails("n " + n + ", it has halted", ARGUMENT, () -> y.run(n));
        }
        same("the least", busy().run(1), 1);
        same("the greatest", busy().run(500), 500);
    }

    private static void nothingRead() {
        holds("Promise 12", "IllegalStateException: nothing was read.");
        refused("a new object", STATE, LinkMill::new, x -> x.run(1));
        refused("the greatest n", STATE, LinkMill::new, x -> x.run(500));
        refused("a link alone", STATE, () -> linked(1), x -> x.run(1));
        LinkMill y = linked(1);
        y.stretch(1);
        same("read in vain", y.read(), -10);
        fails("read in vain", STATE, () -> y.run(1));
        y.stretch(-1);
        same("read", y.read(), 0);
        same("run", y.run(1), 1);
        y.stretch(1);
        same("read in vain behind a good one", y.read(), -10);
        same("what was read stays", y.run(1), 0);
    }

    // ---- promise 14

    private static void register() {
        holds("Promise 14", "Register r; 0 when there is none.");
        int[] code = new int[32];
        for (int r = 0; r < 32; r++) {
            code[r] = wordOf(PLUS, r, 0, 100 + r);
        }
        LinkMill x = machine(0, code, 128);
        same("run", x.run(32), 32);
        for (int r = 0; r < 32; r++) {
            same("register " + r, x.register(r), r == 0 ? 0 : 100 + r);
        }
        int[] none = {-1, -31, 32, 33, 63, LEAST, LEAST + 1, GREATEST};
        for (int r : none) {
            same("register " + r, x.register(r), 0);
            idle("register " + r, 0, BUSY, y -> y.register(r));
        }
        same("before anything was read", new LinkMill().register(31), 0);
    }

    // ---- promise 15

    private static void memory() {
        holds("Promise 15", "The word at an address of what was read, as it is now.");
        int[] code = {wordOf(LOAD, 1, 0, 192), wordOf(STORE, 1, 0, 196), HALT};
        LinkMill x = machine(128, code, 192, LEAST, GREATEST);
        for (int i = 0; i < 3; i++) {
            same("code " + i, x.memory(128 + 4 * i), code[i]);
        }
        same("the first of the data", x.memory(192), LEAST);
        same("the last of the data", x.memory(196), GREATEST);
        x.run(500);
        same("as it is now", x.memory(196), LEAST);
        x.alter(36, 0);
        same("not as the image is now", x.memory(128), code[0]);
        LinkMill y = machine(0, new int[] {HALT}, 64);
        same("at 0", y.memory(0), HALT);
        LinkMill z = machine(0, new int[] {HALT}, 2147483584, 1, 2, 3, 4, 5, 6, 7, 8, 9, 10, 11, 12, 13, 14, 15, 16);
        same("at the last address", z.memory(2147483644), 16);
    }

    private static void memoryRefused() {
        holds("Promise 15", "IndexOutOfBoundsException: it is no word of code or data.");
        // busy() has read code at 64 .. 83 and data at 128 .. 135.
        int[] none = {0, 60, 63, 65, 66, 67, 81, 83, 84, 124, 127, 129, 130, 131, 133, 135, 136, -4, -64, -128, LEAST,
            LEAST + 64, LEAST + 128, GREATEST, GREATEST - 3};
        for (int address : none) {
            refused("at " + address, INDEX, BUSY, x -> x.memory(address));
            refused("at " + address + ", nothing was read", INDEX, LinkMill::new, x -> x.memory(address));
        }
        LinkMill y = busy();
        int[] words = {64, 80, 128, 132};
        int[] held = {wordOf(PLUS, 1, 1, 5), wordOf(CALL, 3, 0, -8), 70, 10};
        for (int i = 0; i < 4; i++) {
            same("at " + words[i], y.memory(words[i]), held[i]);
        }
        LinkMill z = machine(64, new int[] {HALT}, 128);
        fails("the data's address without data", INDEX, () -> z.memory(128));
        LinkMill last = machine(0, new int[] {HALT}, 2147483584, 1);
        fails("an address that would wrap", INDEX, () -> last.memory(LEAST));
        fails("an address that would wrap", INDEX, () -> last.memory(-64));
    }

    // ---- promise 16

    /** A machine that has shown 1 .. n. */
    private static LinkMill hasShown(int n) {
        int[] code = {wordOf(PLUS, 1, 1, 1), wordOf(SHOW, 1, 0, 0), wordOf(CALL, 0, 0, -4)};
        LinkMill x = machine(0, code, 64);
        for (int left = 3 * n; left > 0; left -= 500) {
            x.run(Math.min(left, 500));
        }
        same("numbers shown", x.about(4), n);
        return x;
    }

    private static void shown() {
        holds("Promise 16", "The i-th last number that was shown since it was read (0 the last; 16 are kept).");
        int[] numbers = {1, 2, 15, 16, 17, 18, 31, 32, 33, 1000};
        for (int n : numbers) {
            LinkMill x = hasShown(n);
            for (int i = 0; i < 20; i++) {
                same("shown " + i + " of " + n, x.shown(i), i < Math.min(n, 16) ? n - i : NONE);
            }
            same("read again", x.read(), 0);
            same("none since", x.shown(0), NONE);
            same("none since", x.about(4), 0);
            x.run(2);
            same("the only one since", x.shown(0), 1);
            same("the next", x.shown(1), NONE);
            same("the last that was kept before", x.shown(15), NONE);
        }
    }

    private static void nothingShown() {
        holds("Promise 16", "NONE when there is none.");
        int[] none = {-1, -16, 16, 17, LEAST, LEAST + 1, GREATEST};
        for (int i : none) {
            same("shown " + i + " of 40", hasShown(40).shown(i), NONE);
            idle("shown " + i, NONE, BUSY, x -> x.shown(i));
        }
        same("nothing was read", new LinkMill().shown(0), NONE);
        same("nothing was shown", hasShown(0).shown(0), NONE);
        LinkMill x = machine(0, new int[] {wordOf(PLUS, 1, 0, -1), wordOf(SHOW, 1, 0, 0)}, 64);
        x.run(2);
        same("a number that is as NONE", x.shown(0), -1);
        same("counts", x.about(4), 1);
    }

    // ---- promise 17

    private static void about() {
        holds("Promise 17", "what 0: bytes of the image; 1: 0 nothing was read, 1 it runs, 2 HALTED, 3 FAILED;"
                + " 2: PC; 3: instructions since it was read; 4: numbers shown since.");
        LinkMill x = new LinkMill();
        same("no image", x.about(0), 0);
        same("nothing was read", x.about(1), 0);
        x.stretch(1000);
        same("an image of 1000", x.about(0), 1000);
        x.read();
        same("read in vain", x.about(1), 0);
        LinkMill y = five(HALT);
        same("bytes", y.about(0), 56);
        same("it runs", y.about(1), RUNS);
        y.run(4);
        same("it runs", y.about(1), RUNS);
        same("PC", y.about(2), 16);
        y.run(1);
        same("HALTED", y.about(1), HALTED);
        same("instructions", y.about(3), 5);
        same("numbers", y.about(4), 0);
        LinkMill z = five(19);
        z.run(500);
        same("FAILED", z.about(1), FAILED);
        same("instructions", z.about(3), 5);
        LinkMill far = machine(2147483580, new int[] {wordOf(CALL, 0, 0, 2)}, 2147483584);
        same("the greatest entry", far.about(2), 2147483580);
        LinkMill many = hasShown(1000);
        same("instructions", many.about(3), 3000);
        same("numbers, more than are kept", many.about(4), 1000);
    }

    private static void aboutNone() {
        holds("Promise 17", "NONE for another what.");
        int[] none = {-1, 5, LEAST, GREATEST};
        for (int what : none) {
            idle("what " + what, NONE, BUSY, x -> x.about(what));
            idle("what " + what + " of a new object", NONE, LinkMill::new, x -> x.about(what));
        }
    }

    // ---- What it is

    private static void lastCall() {
        hasNoEdge("What it is", "A mill that puts instructions and data together into objects with names and fixes,"
                + " links objects to an image at an address, with names found and fixes made, writes the image as"
                + " bytes with a strict form, reads such bytes, and runs what they hold.");
        holds("What it is", "An object is used for at most 512 calls after it has been made;"
                + " what later calls answer is free.");
        LinkMill x = new LinkMill();
        x.define(0, 0, CODE, 0, true);
        x.put(0, PLUS, 1, 1, 1);
        x.put(0, SHOW, 1, 0, 0);
        x.put(0, CALL, 0, 0, -4);
        same("link", x.link(0, 0), 48);
        same("read", x.read(), 0);
        for (int call = 7; call <= 509; call++) {
            same("call " + call, x.run(500), 500);
        }
        int instructions = 503 * 500;
        same("call 510", x.about(3), instructions);
        same("call 511", x.about(4), instructions / 3);
        same("call 512", x.shown(15), instructions / 3 - 15);
    }
}
