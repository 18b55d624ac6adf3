import java.util.ArrayList;
import java.util.List;
import java.util.concurrent.Callable;
import java.util.function.Supplier;

/** What the tests share: checks that are counted, and mills in known states. */
class Checks {
    static final int MAGIC = 1263422796;
    static final int NONE = LinkMill.NONE;
    static final int LEAST = Integer.MIN_VALUE;
    static final int GREATEST = Integer.MAX_VALUE;
    static final Class<?> ARGUMENT = IllegalArgumentException.class;
    static final Class<?> STATE = IllegalStateException.class;
    static final Class<?> INDEX = IndexOutOfBoundsException.class;

    static final int HALT = 0, UPPER = 1, PLUS = 2, SUM = 3, LESS = 4, AND = 5, OR = 6, XOR = 7, LEFT = 8,
            RIGHT = 9, BELOW = 10, LOAD = 11, STORE = 12, IFSAME = 13, IFOTHER = 14, IFBELOW = 15, CALL = 16,
            BACK = 17, SHOW = 18;
    static final int CODE = 0, DATA = 1;
    static final int RUNS = 1, HALTED = 2, FAILED = 3;

    /** Stands in a trace for a call that throws; no int is so large. */
    private static final long THROWN = 1L << 40;

    /** What the checks that follow are about: a promise, or a sentence of the document. */
    static String topic = "";

    private static int passed = 0;
    private static int failed = 0;

    /** A call on a mill. */
    interface Call {
        Object on(LinkMill x);
    }

    static void check(String what, boolean right, Object got, Object want) {
        if (right) {
            passed++;
        } else {
            failed++;
            System.out.println(topic + ": " + what + " is " + got + ", due is " + want);
        }
    }

    static void same(String what, long got, long want) {
        check(what, got == want, got, want);
    }

    static void fails(String what, Class<?> want, Callable<?> call) {
        Class<?> got = null;
        try {
            call.call();
        } catch (Exception e) {
            got = e.getClass();
        }
        check(what, got == want, got, want);
    }

    /** That a call throws, and leaves all else as it is in a twin that has not got the call. */
    static void refused(String what, Class<?> want, Supplier<LinkMill> maker, Call call) {
        LinkMill x = maker.get();
        fails(what, want, () -> call.on(x));
        sameTrace(what, x, maker.get());
    }

    /** Likewise for a call that only answers. */
    static void idle(String what, Object want, Supplier<LinkMill> maker, Call call) {
        LinkMill x = maker.get();
        Object got = call.on(x);
        check(what, want.equals(got), got, want);
        sameTrace(what, x, maker.get());
    }

    private static void sameTrace(String what, LinkMill x, LinkMill twin) {
        List<Long> got = traceOf(x);
        List<Long> want = traceOf(twin);
        check(what + ", all else", got.equals(want), got, want);
    }

    /** Prints how many checks there were, and ends the program: with 1 if one failed. */
    static void end() {
        System.out.println(passed + " passed, " + failed + " failed");
        System.exit(failed == 0 ? 0 : 1);
    }

    // ---- all that a mill tells

    /** What a mill holds inside its objects comes out only in a link: hence the one at the end. */
    private static List<Long> traceOf(LinkMill x) {
        List<Long> trace = new ArrayList<>();
        for (int o = 0; o < 4; o++) {
            for (int what = 0; what < 4; what++) {
                trace.add((long) x.object(o, what));
            }
        }
        for (int name = 0; name < 16; name++) {
            trace.add((long) x.value(name));
        }
        traceImage(x, trace);
        traceMachine(x, trace);
        trace.add((long) x.link(64, 0));
        traceImage(x, trace);
        trace.add((long) x.read());
        trace.add(x.about(1) == 0 ? THROWN : x.run(9));
        traceMachine(x, trace);
        return trace;
    }

    private static void traceImage(LinkMill x, List<Long> trace) {
        int size = x.about(0);
        trace.add((long) size);
        // A call tells one byte, and a mill has 512 calls: of a long image the first ones must do.
        for (int i = 0; i < size && i < 182; i++) {
            trace.add((long) x.image(i));
        }
    }

    private static void traceMachine(LinkMill x, List<Long> trace) {
        for (int what = 1; what < 5; what++) {
            trace.add((long) x.about(what));
        }
        for (int r = 0; r < 32; r++) {
            trace.add((long) x.register(r));
        }
        for (int i = 0; i < 17; i++) {
            trace.add((long) x.shown(i));
        }
        for (int address = 60; address <= 136; address += 4) {
            trace.add(memoryOf(x, address));
        }
    }

    private static long memoryOf(LinkMill x, int address) {
        try {
            return x.memory(address);
        } catch (IndexOutOfBoundsException e) {
            return THROWN;
        }
    }

    // ---- words

    static int imageWord(LinkMill x, int at) {
        return x.image(at) | x.image(at + 1) << 8 | x.image(at + 2) << 16 | x.image(at + 3) << 24;
    }

    static void setImageWord(LinkMill x, int at, int w) {
        for (int i = 0; i < 4; i++) {
            x.alter(at + i, w >> 8 * i & 255);
        }
    }

    static int headerSum(LinkMill x) {
        int sum = 0;
        for (int k = 0; k < 8; k++) {
            sum += imageWord(x, 4 * k);
        }
        return sum;
    }

    /** An instruction's word, put together here and not by the mill. */
    static int wordOf(int op, int a, int b, int c) {
        if (op == HALT || op == SHOW) {
            return op | (op == SHOW ? a << 5 : 0);
        }
        if (op == UPPER || op == CALL) {
            return op | a << 5 | c << (op == UPPER ? 12 : 10);
        }
        return op | a << 5 | b << 10 | c << (op >= SUM && op <= BELOW ? 15 : 20);
    }

    static int[] in(int op, int a, int b, int c) {
        return new int[] {op, a, b, c};
    }

    /** The word that the mill puts an instruction together to. */
    static int encoded(int op, int a, int b, int c) {
        LinkMill x = new LinkMill();
        x.define(0, 0, CODE, 0, true);
        x.put(0, op, a, b, c);
        x.link(0, 0);
        return imageWord(x, 36);
    }

    // ---- mills

    /** A mill with code 0 .. n-1 (HALT each) and one word of data, linked at 128 with entry 0. */
    static LinkMill linked(int halts) {
        LinkMill x = new LinkMill();
        x.define(0, 0, CODE, 0, true);
        for (int i = 0; i < halts; i++) {
            x.put(0, HALT, 0, 0, 0);
        }
        x.word(0, 9);
        same("link", x.link(128, 0), 36 + 4 * halts + 4);
        return x;
    }

    /** An image with nothing but what is given, as bytes, so that every header word can be chosen. */
    static LinkMill raw(int... words) {
        LinkMill x = new LinkMill();
        x.stretch(4 * words.length);
        for (int k = 0; k < words.length; k++) {
            setImageWord(x, 4 * k, words[k]);
        }
        return x;
    }

    /** A header with the sum that is due, and bytes of 0 behind it. */
    static LinkMill summed(int bytesBehind, int... header) {
        int[] words = new int[9];
        for (int k = 0; k < 8; k++) {
            words[k] = header[k];
            words[8] += header[k];
        }
        LinkMill x = raw(words);
        x.stretch(bytesBehind);
        return x;
    }

    /** A sound header by the document, with the given addresses, and words of code and data. */
    static LinkMill sound(int entry, int code, int codeWords, int data, int dataWords) {
        return summed(4 * (codeWords + dataWords),
                MAGIC, entry, code, 4 * codeWords, 36, data, 4 * dataWords, 36 + 4 * codeWords);
    }

    /** Words of code at any address, and words of data at another, read and ready to run from the first. */
    static LinkMill machine(int code, int[] codeWords, int data, int... dataWords) {
        LinkMill x = sound(code, code, codeWords.length, data, dataWords.length);
        for (int i = 0; i < codeWords.length; i++) {
            setImageWord(x, 36 + 4 * i, codeWords[i]);
        }
        for (int i = 0; i < dataWords.length; i++) {
            setImageWord(x, 36 + 4 * (codeWords.length + i), dataWords[i]);
        }
        same("read", x.read(), 0);
        return x;
    }

    /** Code of one object at an address, read and ready to run. */
    static LinkMill program(int base, int[][] code, int... data) {
        LinkMill x = new LinkMill();
        x.define(0, 0, CODE, 0, true);
        for (int[] i : code) {
            x.put(0, i[0], i[1], i[2], i[3]);
        }
        for (int w : data) {
            x.word(0, w);
        }
        x.link(base, 0);
        same("read", x.read(), 0);
        return x;
    }

    /**
     * A mill that holds something of each kind: objects with words, definitions and fixes, an image that is not
     * the latest link's, a program that has shown and stored numbers and still runs.
     */
    static LinkMill busy() {
        LinkMill x = new LinkMill();
        x.define(0, 0, CODE, 0, true);
        x.put(0, PLUS, 1, 1, 5);
        x.put(0, SHOW, 1, 0, 0);
        x.put(0, UPPER, 2, 0, 0);
        x.fix(0, CODE, 2, 1, 1, 4);
        x.put(0, STORE, 1, 2, 0);
        x.fix(0, CODE, 3, 2, 1, 4);
        x.put(1, CALL, 3, 0, 0);
        x.fix(1, CODE, 0, 4, 0, 0);
        x.word(1, 70);
        x.word(1, 71);
        x.define(1, 1, DATA, 0, true);
        x.define(2, 2, CODE, 0, false);
        x.link(64, 0);
        x.read();
        x.run(12);
        x.link(128, 0);
        x.alter(5, 1);
        x.stretch(2);
        return x;
    }

    /** A mill whose object o is full of words, definitions and fixes, each unlike the others. */
    static LinkMill full(int o) {
        LinkMill x = new LinkMill();
        for (int i = 0; i < 24; i++) {
            x.put(o, PLUS, 1, 1, i);
        }
        for (int i = 0; i < 12; i++) {
            x.word(o, 100 + i);
        }
        for (int name = 0; name < 8; name++) {
            x.define(o, name, name % 2, name, true);
        }
        for (int k = 0; k < 16; k++) {
            x.fix(o, CODE, k, 2, k % 8, k);
        }
        return x;
    }
}
