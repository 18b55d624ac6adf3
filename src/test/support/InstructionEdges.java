/** The edges of each instruction: how it stands in its word, and what it makes when it is run. */
final class InstructionEdges extends Edges {
    /** An address that Rb + c comes to by wrapping, with the least int in Rb and the least c; a multiple of 64. */
    private static final int WRAPPED = 2147481600;

    private InstructionEdges() {
    }

    static void all() {
        fields();
        halt();
        upper();
        plus();
        sums();
        shifts();
        below();
        loadAndStore();
        addressesWrap();
        branches();
        branchesOnEdges();
        call();
        back();
        show();
        noInstructions();
        numbers();
        untoldBits();
        registerZero();
        intsWrap();
    }

    private static void fields() {
        holds(INSTRUCTION, "AN INSTRUCTION of number op with a, b (registers 0 .. 31) and c is a word; bits are named"
                + " from 0, the lowest; op is in bits 0 .. 4, a in 5 .. 9, b in 10 .. 14:");
        same("the least of all", encoded(HALT, 0, 0, 0), 0);
        same("the greatest op", encoded(SHOW, 0, 0, 0), 18);
        same("the greatest a", encoded(PLUS, 31, 0, 0), 2 | 31 << 5);
        same("the greatest b", encoded(PLUS, 0, 31, 0), 2 | 31 << 10);
        same("a and b 16", encoded(PLUS, 16, 16, 0), 2 | 1 << 9 | 1 << 14);
        same("a and b 1", encoded(PLUS, 1, 1, 0), 2 | 1 << 5 | 1 << 10);
        same("register 31 as a, b and c", encoded(BELOW, 31, 31, 31), 10 | 31 << 5 | 31 << 10 | 31 << 15);
        LinkMill x = program(0, new int[][] {in(PLUS, 31, 0, 7), in(SUM, 30, 31, 31), in(SHOW, 30, 0, 0)});
        x.run(3);
        same("register 31 when it is run", x.register(31), 7);
        same("register 31 as b and c", x.shown(0), 14);
    }

    private static void halt() {
        holds(INSTRUCTION, "0 HALT");
        LinkMill x = machine(0, new int[] {0}, 64);
        same("the word 0", x.run(500), 1);
        same("the word 0", x.about(1), HALTED);
        LinkMill y = machine(0, new int[] {-1 & ~31}, 64);
        same("all bits but those of op", y.run(500), 1);
        same("all bits but those of op", y.about(1), HALTED);
    }

    private static void upper() {
        holds(INSTRUCTION, "1 UPPER: Ra = c * 4096, c in bits 12 .. 31 (b is not there)");
        int[] numbers = {-524288, -1, 0, 1, 524287};
        for (int c : numbers) {
            same("the word with c " + c, encoded(UPPER, 31, 31, c), 1 | 31 << 5 | c << 12);
            LinkMill x = machine(0, new int[] {1 | 31 << 5 | 3 << 10 | c << 12}, 64);
            x.run(1);
            same("c " + c, x.register(31), c * 4096);
        }
        LinkMill x = new LinkMill();
        fails("c -524289", ARGUMENT, () -> x.put(0, UPPER, 1, 0, -524289));
        fails("c 524288", ARGUMENT, () -> x.put(0, UPPER, 1, 0, 524288));
    }

    /** What an instruction makes of Rb = left, with a number c; Ra is another register. */
    private static int withNumber(int op, int left, int c) {
        LinkMill x = machine(0, new int[] {wordOf(LOAD, 1, 0, 64), wordOf(op, 2, 1, c)}, 64, left);
        same("run", x.run(2), 2);
        return x.register(2);
    }

    /** What an instruction makes of Rb = left and Rc = right. */
    private static int withRegisters(int op, int left, int right) {
        int[] code = {wordOf(LOAD, 1, 0, 64), wordOf(LOAD, 31, 0, 68), wordOf(op, 2, 1, 31)};
        LinkMill x = machine(0, code, 64, left, right);
        same("run", x.run(3), 3);
        return x.register(2);
    }

    private static void plus() {
        holds(INSTRUCTION, "2 PLUS: Ra = Rb + c, c in bits 20 .. 31");
        same("the least c", withNumber(PLUS, 0, -2048), -2048);
        same("the greatest c", withNumber(PLUS, 0, 2047), 2047);
        same("up to the greatest int", withNumber(PLUS, GREATEST - 2047, 2047), GREATEST);
        same("beyond it", withNumber(PLUS, GREATEST - 2046, 2047), LEAST);
        same("down to the least int", withNumber(PLUS, LEAST + 2048, -2048), LEAST);
        same("below it", withNumber(PLUS, LEAST + 2047, -2048), GREATEST);
        LinkMill x = machine(0, new int[] {wordOf(PLUS, 1, 1, 5), wordOf(PLUS, 1, 1, 5)}, 64);
        x.run(2);
        same("the same register", x.register(1), 10);
    }

    private static void sums() {
        holds(INSTRUCTION, "3 SUM: Ra = Rb + Rc, 4 LESS: Ra = Rb - Rc, 5 AND, 6 OR, 7 XOR: likewise;");
        same("SUM to the greatest", withRegisters(SUM, GREATEST - 1, 1), GREATEST);
        same("SUM beyond", withRegisters(SUM, GREATEST, 1), LEAST);
        same("SUM to the least", withRegisters(SUM, LEAST + 1, -1), LEAST);
        same("SUM below", withRegisters(SUM, LEAST, -1), GREATEST);
        same("SUM of the least", withRegisters(SUM, LEAST, LEAST), 0);
        same("SUM of the greatest", withRegisters(SUM, GREATEST, GREATEST), -2);
        same("LESS to the least", withRegisters(LESS, LEAST + 1, 1), LEAST);
        same("LESS below", withRegisters(LESS, LEAST, 1), GREATEST);
        same("LESS beyond", withRegisters(LESS, GREATEST, -1), LEAST);
        same("LESS of the least", withRegisters(LESS, 0, LEAST), LEAST);
        same("LESS, the same", withRegisters(LESS, LEAST, LEAST), 0);
        int[] edges = {LEAST, -1, 0, 1, GREATEST};
        for (int left : edges) {
            for (int right : edges) {
                same("AND", withRegisters(AND, left, right), left & right);
                same("OR", withRegisters(OR, left, right), left | right);
                same("XOR", withRegisters(XOR, left, right), left ^ right);
            }
        }
    }

    private static void shifts() {
        holds(INSTRUCTION,
                "8 LEFT: Ra = Rb times 2, as often as the low five bits of Rc say, 9 RIGHT: with sign;");
        int[] often = {0, 1, 30, 31, 32, 33, 63, 64, -1, -31, -32, LEAST, GREATEST};
        int[] low = {0, 1, 30, 31, 0, 1, 31, 0, 31, 1, 0, 0, 31};
        for (int i = 0; i < often.length; i++) {
            int twice = 3;
            int half = LEAST;
            for (int n = 0; n < low[i]; n++) {
                twice *= 2;
                half /= 2;
            }
            same("LEFT by " + often[i], withRegisters(LEFT, 3, often[i]), twice);
            same("RIGHT by " + often[i], withRegisters(RIGHT, LEAST, often[i]), half);
        }
        same("LEFT of the least", withRegisters(LEFT, LEAST, 1), 0);
        same("LEFT of the greatest", withRegisters(LEFT, GREATEST, 1), -2);
        same("RIGHT of the greatest", withRegisters(RIGHT, GREATEST, 30), 1);
        same("RIGHT of the greatest", withRegisters(RIGHT, GREATEST, 31), 0);
        same("RIGHT of -1", withRegisters(RIGHT, -1, 31), -1);
        same("RIGHT of an odd one below 0", withRegisters(RIGHT, -3, 1), -2);
    }

    private static void below() {
        holds(INSTRUCTION, "10 BELOW: Ra = 1 if Rb is below Rc, else 0: c a register in bits 15 .. 19");
        int[] ascending = {LEAST, LEAST + 1, -1, 0, 1, GREATEST - 1, GREATEST};
        for (int i = 0; i < ascending.length; i++) {
            for (int j = 0; j < ascending.length; j++) {
                same(ascending[i] + " below " + ascending[j],
                        withRegisters(BELOW, ascending[i], ascending[j]), i < j ? 1 : 0);
            }
        }
        for (int op = SUM; op <= BELOW; op++) {
            final int p = op;
            LinkMill x = new LinkMill();
            same("c 0", encoded(op, 0, 0, 0), op);
            same("c 1", encoded(op, 0, 0, 1), op | 1 << 15);
            same("c 31", encoded(op, 0, 0, 31), op | 31 << 15);
            fails("c -1", ARGUMENT, () -> x.put(0, p, 0, 0, -1));
            fails("c 32", ARGUMENT, () -> x.put(0, p, 0, 0, 32));
        }
    }

    private static void loadAndStore() {
        holds(INSTRUCTION,
                "11 LOAD: Ra = the word at address Rb + c, 12 STORE: that becomes Ra, c in bits 20 .. 31");
        // 1 + 2047 is 2048, and 2112 - 2048 is 64: the least and the greatest c, each to a word of data.
        int[] up = {wordOf(PLUS, 1, 0, 1), wordOf(LOAD, 2, 1, 2047), wordOf(STORE, 1, 1, 2047)};
        LinkMill x = machine(0, up, 2048, 77);
        x.run(2);
        same("LOAD with the greatest c", x.register(2), 77);
        x.run(1);
        same("STORE with the greatest c", x.memory(2048), 1);
        int[] down = {wordOf(LOAD, 1, 0, 68), wordOf(LOAD, 2, 1, -2048), wordOf(STORE, 1, 1, -2048)};
        LinkMill y = machine(0, down, 64, 78, 2112);
        y.run(2);
        same("LOAD with the least c", y.register(2), 78);
        y.run(1);
        same("STORE with the least c", y.memory(64), 2112);
        int[] edges = {LEAST, -1, 0, GREATEST};
        for (int w : edges) {
            LinkMill z = machine(0, new int[] {wordOf(LOAD, 31, 0, 64), wordOf(STORE, 31, 0, 68)}, 64, w, 5);
            z.run(2);
            same("LOAD", z.register(31), w);
            same("STORE", z.memory(68), w);
            same("the word before it", z.memory(64), w);
        }
    }

    private static void addressesWrap() {
        holds(INSTRUCTION,
                "11 LOAD: Ra = the word at address Rb + c, 12 STORE: that becomes Ra, c in bits 20 .. 31");
        int[] code = {wordOf(UPPER, 1, 0, -524288), wordOf(LOAD, 2, 1, -2048), wordOf(STORE, 1, 1, -2044)};
        LinkMill x = machine(0, code, WRAPPED, 79, 80);
        same("run", x.run(3), 3);
        same("LOAD at an address that wraps", x.register(2), 79);
        same("STORE at an address that wraps", x.memory(WRAPPED + 4), LEAST);
        same("runs", x.about(1), RUNS);
        int[] beyond = {wordOf(LOAD, 1, 0, 64), wordOf(LOAD, 2, 1, 1)};
        LinkMill y = machine(0, beyond, 64, GREATEST);
        same("run", y.run(3), 2);
        same("LOAD beyond the greatest int", y.about(1), FAILED);
    }

    /** Where a branch at address 8 goes on that compares Ra = left with Rb = right. */
    private static int target(int op, int left, int right, int c) {
        int[] code = {wordOf(LOAD, 1, 0, 64), wordOf(LOAD, 31, 0, 68), wordOf(op, 1, 31, c)};
        LinkMill x = machine(0, code, 64, left, right);
        same("run", x.run(3), 3);
        same("runs", x.about(1), RUNS);
        return x.about(2);
    }

    private static final String BRANCHES = "13 IFSAME: goes on at PC + 2 c, if Ra is Rb, 14 IFOTHER: if not,"
            + " 15 IFBELOW: if Ra is below Rb: c in bits 20 .. 31";

    private static void branches() {
        holds(INSTRUCTION, BRANCHES);
        int[] ascending = {LEAST, -1, 0, 1, GREATEST};
        for (int i = 0; i < ascending.length; i++) {
            for (int j = 0; j < ascending.length; j++) {
                String what = ascending[i] + " and " + ascending[j];
                same("IFSAME " + what, target(IFSAME, ascending[i], ascending[j], -4), i == j ? 0 : 12);
                same("IFOTHER " + what, target(IFOTHER, ascending[i], ascending[j], -4), i != j ? 0 : 12);
                same("IFBELOW " + what, target(IFBELOW, ascending[i], ascending[j], -4), i < j ? 0 : 12);
            }
        }
    }

    private static void branchesOnEdges() {
        holds(INSTRUCTION, BRANCHES);
        int[] numbers = {-2048, -1, 0, 1, 2, 2047};
        for (int c : numbers) {
            same("IFSAME by " + c, target(IFSAME, 5, 5, c), 8 + 2 * c);
            same("IFOTHER by " + c, target(IFOTHER, 5, 6, c), 8 + 2 * c);
            same("IFBELOW by " + c, target(IFBELOW, 5, 6, c), 8 + 2 * c);
        }
        LinkMill x = machine(0, new int[] {wordOf(IFSAME, 0, 0, 0)}, 64);
        same("a branch to itself", x.run(500), 500);
        same("a branch to itself", x.about(2), 0);
        // The last word that code can have, as data must come behind it at a multiple of 64.
        int last = 2147483580;
        LinkMill y = machine(last, new int[] {wordOf(IFSAME, 0, 0, 2047)}, last + 4);
        same("run", y.run(1), 1);
        same("a branch beyond the greatest int", y.about(2), LEAST + 4094 - 68);
        same("no word is there", y.run(1), 1);
        same("no word is there", y.about(1), FAILED);
    }

    private static void call() {
        holds(INSTRUCTION, "16 CALL: Ra = PC + 4, goes on at PC + 2 c, c in bits 10 .. 31");
        int[] numbers = {-2097152, -2, -1, 0, 1, 2, 2097151};
        for (int c : numbers) {
            LinkMill x = machine(4096, new int[] {wordOf(CALL, 31, 0, c)}, 8192);
            same("run", x.run(1), 1);
            same("goes on by " + c, x.about(2), 4096 + 2 * c);
            same("the way back", x.register(31), 4100);
            same("the word with c " + c, encoded(CALL, 31, 31, c), 16 | 31 << 5 | c << 10);
        }
        int last = 2147483580;
        LinkMill y = machine(last, new int[] {wordOf(CALL, 1, 0, 2097151)}, last + 4);
        y.run(1);
        same("beyond the greatest int", y.about(2), LEAST + 4194302 - 68);
        same("the way back", y.register(1), last + 4);
        fails("c -2097153", ARGUMENT, () -> y.put(0, CALL, 1, 0, -2097153));
        fails("c 2097152", ARGUMENT, () -> y.put(0, CALL, 1, 0, 2097152));
    }

    private static void back() {
        holds(INSTRUCTION, "17 BACK: Ra = PC + 4, goes on at Rb (as it was before) + c, c in bits 20 .. 31");
        int[] numbers = {-2048, -1, 0, 1, 2047};
        for (int c : numbers) {
            LinkMill x = machine(0, new int[] {wordOf(PLUS, 1, 0, 100), wordOf(BACK, 1, 1, c)}, 64);
            same("run", x.run(2), 2);
            same("the register as it was before, and " + c, x.about(2), 100 + c);
            same("the way back", x.register(1), 8);
        }
        int[] wraps = {wordOf(UPPER, 1, 0, -524288), wordOf(BACK, 2, 1, -2048)};
        LinkMill y = machine(WRAPPED, wraps, WRAPPED + 64);
        same("run", y.run(4), 4);
        same("an address that wraps to the first word", y.about(2), WRAPPED);
        same("runs", y.about(1), RUNS);
        LinkMill z = machine(0, new int[] {wordOf(LOAD, 1, 0, 64), wordOf(BACK, 0, 1, 1)}, 64, GREATEST);
        z.run(2);
        same("beyond the greatest int", z.about(2), LEAST);
    }

    private static void show() {
        holds(INSTRUCTION, "18 SHOW: Ra is shown.");
        int[] numbers = {LEAST, -1, 0, 1, GREATEST};
        for (int n : numbers) {
            LinkMill x = machine(0, new int[] {wordOf(LOAD, 31, 0, 64), wordOf(SHOW, 31, 0, 0), wordOf(SHOW, 0, 0, 0)},
                    64, n);
            x.run(2);
            same("register 31", x.shown(0), n);
            same("numbers", x.about(4), 1);
            x.run(1);
            same("register 0", x.shown(0), 0);
            same("the one before", x.shown(1), n);
            same("numbers", x.about(4), 2);
        }
    }

    private static void noInstructions() {
        holds(INSTRUCTION, "19 to 31: none.");
        int[] above = {0, -1 & ~31};
        for (int bits : above) {
            for (int op = 19; op < 32; op++) {
                LinkMill x = machine(0, new int[] {wordOf(PLUS, 1, 0, 5), op | bits}, 64, 6);
                same("run of " + op, x.run(500), 2);
                same("op " + op, x.about(1), FAILED);
                same("PC stays", x.about(2), 4);
                same("register stays", x.register(1), 5);
                same("data stays", x.memory(64), 6);
            }
        }
        LinkMill y = machine(0, new int[] {18}, 64);
        same("18 is one", y.run(1), 1);
        same("18 is one", y.about(1), RUNS);
        for (int op = 19; op < 33; op++) {
            final int p = op;
            fails("put of " + op, ARGUMENT, () -> y.put(0, p, 0, 0, 0));
        }
    }

    private static void numbers() {
        holds(INSTRUCTION, "Numbers c in bits 20 .. 31 have 12 bits, in 12 .. 31 20 bits, in 10 .. 31 22 bits,"
                + " all with sign.");
        int[] ops = {UPPER, PLUS, LOAD, STORE, IFSAME, IFOTHER, IFBELOW, CALL, BACK};
        for (int op : ops) {
            int bits = op == UPPER ? 20 : op == CALL ? 22 : 12;
            int half = 1 << bits - 1;
            same("least of op " + op, encoded(op, 0, 0, -half), op | LEAST);
            same("greatest of op " + op, encoded(op, 0, 0, half - 1), op | GREATEST >> 32 - bits << 32 - bits);
            same("-1 of op " + op, encoded(op, 0, 0, -1), op | -1 << 32 - bits);
            same("1 of op " + op, encoded(op, 0, 0, 1), op | 1 << 32 - bits);
            LinkMill x = new LinkMill();
            fails("below the least of op " + op, ARGUMENT, () -> x.put(0, op, 0, 0, -half - 1));
            fails("beyond the greatest of op " + op, ARGUMENT, () -> x.put(0, op, 0, 0, half));
            fails("as without sign, op " + op, ARGUMENT, () -> x.put(0, op, 0, 0, 2 * half - 1));
        }
    }

    private static void untoldBits() {
        holds(INSTRUCTION, "Bits that are not told of are 0 in words that are put together, and do not matter in"
                + " words that are run.");
        for (int op = HALT; op <= SHOW; op++) {
            int w = encoded(op, 31, 31, op >= SUM && op <= BELOW ? 31 : -1);
            same("op " + op + " with all else 1", w, op | ~31 & ~untold(op));
        }
        // Each makes 7 of the registers or goes on behind a word that would make 8, however the other bits are.
        int[] code = {wordOf(PLUS, 1, 0, 7), wordOf(SUM, 2, 1, 0), wordOf(UPPER, 3, 0, 7), wordOf(LOAD, 4, 0, 64),
            wordOf(STORE, 1, 0, 68), wordOf(IFSAME, 0, 0, 4), wordOf(PLUS, 1, 0, 8), wordOf(BACK, 5, 0, 36),
            wordOf(PLUS, 1, 0, 8), wordOf(CALL, 6, 0, 4), wordOf(PLUS, 1, 0, 8), wordOf(SHOW, 1, 0, 0), HALT};
        for (int i = 0; i < code.length; i++) {
            code[i] |= untold(code[i] & 31);
        }
        LinkMill x = machine(0, code, 64, 7, 0);
        same("run", x.run(500), 10);
        same("HALTED", x.about(1), HALTED);
        int[] registers = {0, 7, 7, 7 * 4096, 7, 32, 40};
        for (int r = 0; r < registers.length; r++) {
            same("register " + r, x.register(r), registers[r]);
        }
        same("stored", x.memory(68), 7);
        same("shown", x.shown(0), 7);
    }

    /** The bits of an instruction's word that the document does not tell of. */
    private static int untold(int op) {
        if (op == HALT) {
            return -1 << 5;
        }
        if (op == SHOW) {
            return -1 << 10;
        }
        if (op == UPPER) {
            return 3 << 10;
        }
        return op == CALL ? 0 : op >= SUM && op <= BELOW ? -1 << 20 : 31 << 15;
    }

    private static void registerZero() {
        holds(INSTRUCTION, "Register 0 is always 0.");
        // With 5 in register 1, each of these would make something else of it.
        int[] words = {wordOf(UPPER, 0, 0, 1), wordOf(PLUS, 0, 1, 0), wordOf(SUM, 0, 1, 2), wordOf(LESS, 0, 1, 2),
            wordOf(AND, 0, 1, 1), wordOf(OR, 0, 1, 2), wordOf(XOR, 0, 1, 2), wordOf(LEFT, 0, 1, 2),
            wordOf(RIGHT, 0, 1, 2), wordOf(BELOW, 0, 2, 1), wordOf(LOAD, 0, 0, 64), wordOf(CALL, 0, 0, 2),
            wordOf(BACK, 0, 0, 8)};
        for (int w : words) {
            LinkMill x = machine(0, new int[] {wordOf(PLUS, 1, 0, 5), w, wordOf(SHOW, 0, 0, 0)}, 64, 9);
            same("run", x.run(3), 3);
            same("register 0 behind op " + (w & 31), x.register(0), 0);
            same("shown behind op " + (w & 31), x.shown(0), 0);
        }
        LinkMill y = machine(0, new int[] {wordOf(PLUS, 0, 0, 7), wordOf(SUM, 1, 0, 0), wordOf(PLUS, 2, 0, 3)}, 64);
        y.run(3);
        same("as b and c", y.register(1), 0);
        same("as b", y.register(2), 3);
    }

    private static void intsWrap() {
        holds(INSTRUCTION, "Ints wrap.");
        same("SUM", withRegisters(SUM, GREATEST, GREATEST), -2);
        same("LESS", withRegisters(LESS, LEAST, GREATEST), 1);
        same("PLUS", withNumber(PLUS, GREATEST, 2047), LEAST + 2046);
        same("LEFT", withRegisters(LEFT, 0x60000001, 2), LEAST + 4);
        // Each turn adds to register 1, which goes round the ints four times in sixteen turns.
        int[] code = {wordOf(UPPER, 2, 0, 262144), wordOf(SUM, 1, 1, 2), wordOf(CALL, 0, 0, -4)};
        LinkMill x = machine(0, code, 64);
        for (int turn = 1; turn <= 16; turn++) {
            same("run", x.run(3), 3);
            same("turn " + turn, x.register(1), turn * (1 << 30));
        }
    }
}
