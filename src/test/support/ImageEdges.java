import java.util.function.Supplier;

/** The edges of the image's bytes, and of reading them. */
final class ImageEdges extends Edges {
    private static final Supplier<LinkMill> BUSY = Checks::busy;
    /** The greatest address that is a multiple of 64. */
    private static final int TOP = 2147483584;

    private ImageEdges() {
    }

    static void all() {
        header();
        sumWraps();
        codeAndData();
        magic();
        missingWords();
        entry();
        codeAddress();
        codeBytes();
        codeUpToTheLastAddress();
        thirtySix();
        dataAddress();
        dataBytes();
        dataUpToTheLastAddress();
        whereTheCodeEnds();
        sum();
        entryBehindTheCode();
        wrongSize();
        image();
        alter();
        alterRefused();
        stretch();
        stretchRefused();
        read();
        readOfAThousand();
        readRefused();
    }

    // ---- Terms: the image

    private static void header() {
        holds(IMAGE, "THE IMAGE is bytes, words of four with the lowest byte first: 1263422796; the entry's address;"
                + " then twice (code, data) an address, how many bytes, and at which byte of the image they begin;");
        LinkMill x = new LinkMill();
        x.define(0, 0, CODE, 0, true);
        same("without code and data", x.link(0x01020304, 0), 36);
        // The bytes of 1263422796, then those of the base, each lowest first.
        int[] bytes = {76, 77, 78, 75, 4, 3, 2, 1, 4, 3, 2, 1, 0, 0, 0, 0, 36, 0, 0, 0, 0x40, 3, 2, 1, 0, 0, 0, 0, 36};
        for (int i = 0; i < bytes.length; i++) {
            same("byte " + i, x.image(i), bytes[i]);
        }
        for (int o = 0; o < 4; o++) {
            for (int i = 0; i < 24; i++) {
                x.put(o, HALT, 0, 0, 0);
            }
            for (int i = 0; i < 12; i++) {
                x.word(o, -1);
            }
        }
        x.define(3, 15, DATA, 12, true);
        same("full of code and data", x.link(4, 15), 612);
        int[] words = {MAGIC, 640, 4, 384, 36, 448, 192, 420};
        for (int k = 0; k < 8; k++) {
            same("word " + k, imageWord(x, 4 * k), words[k]);
        }
    }

    private static void sumWraps() {
        holds(IMAGE, "then the sum of these eight words (wraps);");
        // 1263422796 and 36 twice leave room for three addresses up to 294686926, which 64 does not divide.
        int[] bases = {0, 294686912, 294686976, 1000000000};
        for (int base : bases) {
            LinkMill x = new LinkMill();
            x.define(0, 0, CODE, 0, true);
            same("link", x.link(base, 0), 36);
            long sum = 1263422796L + 36 + 36 + 3L * base;
            same("at " + base, imageWord(x, 32), (int) sum);
            same("beyond the ints", sum > GREATEST ? 1 : 0, base > 294686926 ? 1 : 0);
        }
    }

    private static void codeAndData() {
        holds(IMAGE, "then the code, and the data.");
        for (int codes = 0; codes < 2; codes++) {
            for (int words = 0; words < 2; words++) {
                LinkMill x = new LinkMill();
                x.define(0, 0, CODE, 0, true);
                if (codes == 1) {
                    x.put(0, SHOW, 31, 0, 0);
                }
                if (words == 1) {
                    x.word(0, 0x04030201);
                }
                int size = 36 + 4 * codes + 4 * words;
                same("link", x.link(4, 0), size);
                if (codes == 1) {
                    same("the code", imageWord(x, 36), wordOf(SHOW, 31, 0, 0));
                }
                for (int i = 0; i < 4 * words; i++) {
                    same("the data right behind it", x.image(36 + 4 * codes + i), i + 1);
                }
                same("nothing behind that", x.image(size), NONE);
            }
        }
    }

    // ---- Terms: to read

    /** What a read answers for a header of one word of code at 0 and no data, with word k another one. */
    private static int readWith(int k, int w) {
        int[] header = {MAGIC, 0, 0, 4, 36, 64, 0, 40};
        header[k] = w;
        return summed(4, header).read();
    }

    /** Likewise for chosen addresses and numbers of bytes, with all else as it must be. */
    private static int readOf(int entry, int code, int codeBytes, int data, int dataBytes) {
        return summed(4, MAGIC, entry, code, codeBytes, 36, data, dataBytes, 36 + codeBytes).read();
    }

    private static final String READ = "TO READ it: -1 - k for the first word k (0 .. 8) that is not as it must be,"
            + " or not there wholly: 1263422796;";

    private static void magic() {
        holds(IMAGE, READ);
        same("1263422796", readWith(0, MAGIC), 0);
        int[] others = {MAGIC - 1, MAGIC + 1, 0, -MAGIC, 0x4c4d4e4b, MAGIC ^ LEAST, LEAST, GREATEST};
        for (int w : others) {
            same("word 0 is " + w, readWith(0, w), -1);
        }
        LinkMill x = sound(0, 0, 1, 64, 0);
        for (int k = 8; k >= 2; k--) {
            setImageWord(x, 4 * k, -1);
            same("the first that is wrong is word " + k, x.read(), -1 - k);
        }
        setImageWord(x, 0, -1);
        same("the first that is wrong is word 0", x.read(), -1);
    }

    private static void missingWords() {
        holds(IMAGE, READ);
        // Word 1 is looked at behind words 2 to 4: the first that an image of 4 to 11 bytes lacks is word 2.
        int[] missing = {0, 2, 2, 3, 4, 5, 6, 7, 8};
        for (int size = 35; size >= 0; size--) {
            LinkMill x = sound(0, 0, 1, 64, 0);
            same("stretch", x.stretch(size - 40), size);
            same(size + " bytes", x.read(), -1 - missing[size / 4]);
        }
        same("no image", new LinkMill().read(), -1);
        LinkMill y = sound(0, 0, 1, 64, 0);
        y.stretch(-5);
        y.alter(3, 0);
        same("the first that is wrong before the first that lacks", y.read(), -1);
    }

    private static void entry() {
        holds(IMAGE, "an entry that is in the code, and a multiple of 4;");
        // Code of 8 bytes at 64.
        int[] good = {64, 68};
        for (int entry : good) {
            same("entry " + entry, sound(entry, 64, 2, 128, 0).read(), 0);
        }
        int[] bad = {60, 63, 65, 66, 67, 69, 71, 72, 76, 128, 0, -64, LEAST, LEAST + 64, GREATEST, GREATEST - 3};
        for (int entry : bad) {
            same("entry " + entry, sound(entry, 64, 2, 128, 1).read(), -2);
        }
        same("below code at 0", readOf(-4, 0, 4, 64, 0), -2);
        same("the data's", sound(128, 64, 2, 128, 1).read(), -2);
    }

    private static final String CODE_IS = "code: an address that is a multiple of 4, a number of bytes that is one,"
            + " 4 to 4096, such that the last address is not beyond 2147483647, nor the address below 0;";

    private static void codeAddress() {
        holds(IMAGE, CODE_IS);
        int[] good = {0, 4, 60, 1000000000, TOP - 4};
        for (int code : good) {
            same("code at " + code, readOf(code, code, 4, (code + 4 + 63) / 64 * 64, 0), 0);
        }
        int[] bad = {1, 2, 3, 5, -1, -4, -64, LEAST, LEAST + 4, GREATEST, GREATEST - 1};
        for (int code : bad) {
            same("code at " + code, readOf(code, code, 4, TOP, 0), -3);
        }
    }

    private static void codeBytes() {
        holds(IMAGE, CODE_IS);
        same("the fewest", readOf(0, 0, 4, 64, 0), 0);
        same("the most, with too few bytes behind the header", readOf(0, 0, 4096, 4096, 0), -10);
        int[] bad = {0, 1, 2, 3, 5, 6, 7, 4095, 4097, 4098, 4100, -4, -1, LEAST, LEAST + 4, GREATEST, GREATEST - 3};
        for (int bytes : bad) {
            same(bytes + " bytes of code", readOf(0, 0, bytes, 8192, 0), -4);
        }
    }

    private static void codeUpToTheLastAddress() {
        holds(IMAGE, CODE_IS);
        // No data can come behind such code: that its own words are as they must be is told by word 5.
        int last = 2147483644;
        same("4 bytes to the last address", readOf(last, last, 4, TOP, 0), -6);
        same("4 bytes beyond", readOf(last, last, 8, TOP, 0), -4);
        same("4096 bytes to the last address", readOf(last, last - 4092, 4096, TOP, 0), -6);
        same("4 bytes beyond", readOf(last, last - 4088, 4096, TOP, 0), -4);
    }

    private static void thirtySix() {
        holds(IMAGE, "36;");
        same("36", readWith(4, 36), 0);
        int[] others = {35, 37, 0, 32, 40, -36, LEAST | 36, LEAST, GREATEST};
        for (int w : others) {
            same("word 4 is " + w, readWith(4, w), -5);
        }
    }

    private static final String DATA_IS = "data: an address that is a multiple of 64, a number that is a multiple of"
            + " 4, 0 to 4096, not beyond either, and not below the code's end;";

    private static void dataAddress() {
        holds(IMAGE, DATA_IS);
        int[] good = {64, 128, 1000000000, TOP};
        for (int data : good) {
            same("data at " + data, readOf(0, 0, 4, data, 0), 0);
        }
        int[] bad = {1, 4, 32, 63, 65, 68, 96, 127, TOP + 4, GREATEST, -1, -64, LEAST, LEAST + 64};
        for (int data : bad) {
            same("data at " + data, readOf(0, 0, 4, data, 0), -6);
        }
        same("at the code's end", sound(0, 0, 16, 64, 0).read(), 0);
        same("one word below it", sound(0, 0, 17, 64, 0).read(), -6);
        same("one word above it", sound(0, 0, 15, 64, 0).read(), 0);
        same("where the code is", sound(64, 64, 1, 64, 0).read(), -6);
        same("below the code", sound(64, 64, 1, 0, 0).read(), -6);
        same("at the end of the last code that can be", readOf(TOP - 4, TOP - 4, 4, TOP, 0), 0);
        same("one word below that", readOf(TOP - 4, TOP - 4, 8, TOP, 0), -6);
    }

    private static void dataBytes() {
        holds(IMAGE, DATA_IS);
        same("no data", sound(0, 0, 1, 64, 0).read(), 0);
        same("a word of data", sound(0, 0, 1, 64, 1).read(), 0);
        same("the most, with too few bytes behind the header", readOf(0, 0, 4, 64, 4096), -10);
        int[] bad = {1, 2, 3, 5, 6, 7, 4095, 4097, 4098, 4100, -4, -1, LEAST, LEAST + 4, GREATEST, GREATEST - 3};
        for (int bytes : bad) {
            same(bytes + " bytes of data", readOf(0, 0, 4, 64, bytes), -7);
        }
    }

    private static void dataUpToTheLastAddress() {
        holds(IMAGE, DATA_IS);
        LinkMill x = sound(0, 0, 1, TOP, 16);
        setImageWord(x, 36 + 64, 77);
        same("64 bytes to the last address", x.read(), 0);
        same("the last word of all", x.memory(2147483644), 77);
        same("4 bytes beyond", sound(0, 0, 1, TOP, 17).read(), -7);
        same("4096 bytes to the last address", readOf(0, 0, 4, TOP - 4032, 4096), -10);
        same("64 bytes beyond", readOf(0, 0, 4, TOP - 4032 + 64, 4096), -7);
        same("none at the last multiple of 64", readOf(0, 0, 4, TOP, 0), 0);
    }

    private static void whereTheCodeEnds() {
        holds(IMAGE, "where the code ends;");
        same("behind the header and a word", readWith(7, 40), 0);
        int[] others = {36, 39, 41, 44, 0, 4, -40, LEAST | 40, LEAST, GREATEST};
        for (int w : others) {
            same("word 7 is " + w, readWith(7, w), -8);
        }
        // With as many bytes as can be, and with as many more as the image can hold.
        same("behind 4096 bytes", summed(0, MAGIC, 0, 0, 4096, 36, 4096, 0, 4132).read(), -10);
        same("before that", summed(0, MAGIC, 0, 0, 4096, 36, 4096, 0, 4128).read(), -8);
        same("behind 964 bytes", summed(964, MAGIC, 0, 0, 964, 36, 1024, 0, 1000).read(), 0);
    }

    private static void sum() {
        holds(IMAGE, "the sum;");
        int sound = MAGIC + 4 + 36 + 64 + 40;
        int[] others = {sound - 1, sound + 1, sound ^ LEAST, 0, -sound, LEAST, GREATEST};
        same("as it must be", raw(MAGIC, 0, 0, 4, 36, 64, 0, 40, sound, HALT).read(), 0);
        for (int w : others) {
            same("word 8 is " + w, raw(MAGIC, 0, 0, 4, 36, 64, 0, 40, w, HALT).read(), -9);
        }
        int wrapped = MAGIC + 1000000000 + 1000000000 + 4 + 36 + 1000000064 + 40;
        same("one that wraps", raw(MAGIC, 1000000000, 1000000000, 4, 36, 1000000064, 0, 40, wrapped, 0).read(), 0);
        same("the sum with itself", raw(MAGIC, 0, 0, 4, 36, 64, 0, 40, 2 * sound, HALT).read(), -9);
    }

    private static void entryBehindTheCode() {
        holds(IMAGE, "(the entry is looked at behind the three words of the code);");
        int[] codeWords = {2, 3, 4};
        for (int k : codeWords) {
            LinkMill x = sound(-1, 0, 1, 64, 0);
            setImageWord(x, 4 * k, -1);
            same("wrong words 1 and " + k, x.read(), -1 - k);
        }
        for (int k = 5; k < 9; k++) {
            LinkMill x = sound(-1, 0, 1, 64, 0);
            setImageWord(x, 4 * k, -1);
            same("wrong words 1 and " + k, x.read(), -2);
        }
        LinkMill y = sound(-1, 0, 1, 64, 0);
        y.alter(0, 0);
        same("wrong words 0 and 1", y.read(), -1);
        for (int size = 39; size >= 4; size--) {
            LinkMill z = sound(-1, 0, 1, 64, 0);
            z.stretch(size - 40);
            same("wrong word 1 of " + size + " bytes", z.read(), size >= 20 ? -2 : -1 - Math.max(size / 4, 2));
        }
    }

    private static void wrongSize() {
        holds(IMAGE, "and -10: there are fewer or more bytes than that.");
        for (int dataWords = 0; dataWords < 2; dataWords++) {
            LinkMill x = sound(0, 0, 1, 64, dataWords);
            same("as many", x.read(), 0);
            x.stretch(1);
            same("one more", x.read(), -10);
            x.stretch(3);
            same("a word more", x.read(), -10);
            x.stretch(1000 - x.about(0));
            same("as many as can be", x.read(), -10);
            x.stretch(40 + 4 * dataWords - 1 - 1000);
            same("one fewer", x.read(), -10);
            x.stretch(36 - x.about(0));
            same("the header alone", x.read(), -10);
        }
        LinkMill y = sound(0, 0, 1, 64, 1);
        y.stretch(1);
        setImageWord(y, 32, 0);
        same("the wrong sum before that", y.read(), -9);
    }

    // ---- promise 8

    private static void image() {
        holds("Promise 8", "Byte i of the image; NONE when there is none.");
        int[] sizes = {1, 36, 1000};
        for (int size : sizes) {
            LinkMill x = new LinkMill();
            same("no byte yet", x.image(0), NONE);
            same("stretch", x.stretch(size), size);
            x.alter(0, 255);
            x.alter(size - 1, 254);
            same("the first", x.image(0), size == 1 ? 254 : 255);
            same("the last", x.image(size - 1), 254);
            int[] none = {size, size + 1, -1, LEAST, GREATEST, 1000};
            for (int i : none) {
                same("byte " + i + " of " + size, x.image(i), NONE);
            }
        }
        int[] none = {-1, 66, 999, 1000, LEAST, GREATEST};
        for (int i : none) {
            idle("byte " + i, NONE, BUSY, x -> x.image(i));
        }
        idle("byte 0 of none", NONE, LinkMill::new, x -> x.image(0));
    }

    // ---- promise 9

    private static void alter() {
        holds("Promise 9", "Byte i of the image becomes v (0 .. 255); true.");
        LinkMill x = new LinkMill();
        x.stretch(1000);
        int[] places = {0, 1, 998, 999};
        int[] values = {0, 1, 127, 128, 254, 255};
        for (int i : places) {
            for (int v : values) {
                same("alter", x.alter(i, v) ? 1 : 0, 1);
                same("byte " + i, x.image(i), v);
            }
        }
        for (int i : places) {
            same("the others stay", x.image(i), 255);
        }
        same("the others stay", x.image(2) + x.image(997), 0);
        same("as many bytes", x.about(0), 1000);
        LinkMill y = program(0, new int[][] {in(HALT, 0, 0, 0)}, 7);
        same("alter", y.alter(40, 8) ? 1 : 0, 1);
        same("what was read stays", y.memory(64), 7);
        same("until it is read again", y.read(), 0);
        same("what was read", y.memory(64), 8);
    }

    private static void alterRefused() {
        holds("Promise 9", "IllegalArgumentException: there is no such byte, or v is not so.");
        // busy() has an image of 66 bytes.
        int[] noByte = {-1, 66, 999, 1000, LEAST, GREATEST};
        for (int i : noByte) {
            refused("byte " + i, ARGUMENT, BUSY, x -> x.alter(i, 1));
        }
        int[] noValue = {-1, 256, -128, LEAST, GREATEST};
        for (int v : noValue) {
            refused("v " + v, ARGUMENT, BUSY, x -> x.alter(0, v));
            refused("v " + v, ARGUMENT, BUSY, x -> x.alter(65, v));
        }
        refused("no byte at all", ARGUMENT, LinkMill::new, x -> x.alter(0, 0));
        LinkMill y = busy();
        same("the last byte", y.alter(65, 255) ? 1 : 0, 1);
        y.stretch(-1);
        fails("the last byte when it was lost", ARGUMENT, () -> y.alter(65, 255));
    }

    // ---- promise 10

    private static void stretch() {
        holds("Promise 10", "The image gets (by above 0) so many bytes of 0 behind it, or loses its last ones:"
                + " how many it has.");
        LinkMill x = new LinkMill();
        same("by 0, without a byte", x.stretch(0), 0);
        same("by 1", x.stretch(1), 1);
        same("the byte", x.image(0), 0);
        same("to 1000", x.stretch(999), 1000);
        same("the last byte", x.image(999), 0);
        same("by 0, with 1000", x.stretch(0), 1000);
        for (int i = 990; i < 1000; i++) {
            x.alter(i, 200);
        }
        same("by -1", x.stretch(-1), 999);
        same("lost", x.image(999), NONE);
        same("not lost", x.image(998), 200);
        same("by -5", x.stretch(-5), 994);
        same("to 1000 again", x.stretch(6), 1000);
        for (int i = 990; i < 1000; i++) {
            same("byte " + i, x.image(i), i < 994 ? 200 : 0);
        }
        same("by -1000", x.stretch(-1000), 0);
        same("no byte", x.image(0), NONE);
        same("from 0 to 1000", x.stretch(1000), 1000);
        same("bytes of 0", x.image(990), 0);
        idle("by 0", 66, BUSY, y -> y.stretch(0));
        LinkMill z = linked(1);
        z.stretch(-44);
        same("a link makes all bytes anew", z.link(128, 0), 44);
        same("read", z.read(), 0);
    }

    private static void stretchRefused() {
        holds("Promise 10", "IllegalArgumentException: it would have fewer than 0 or more than 1000.");
        int[] noSize = {-67, 935, -1000, 1000, LEAST, LEAST + 1, GREATEST, GREATEST - 66};
        for (int by : noSize) {
            refused("66 and " + by, ARGUMENT, BUSY, x -> x.stretch(by));
        }
        refused("0 and -1", ARGUMENT, LinkMill::new, x -> x.stretch(-1));
        refused("0 and 1001", ARGUMENT, LinkMill::new, x -> x.stretch(1001));
        same("to 0", busy().stretch(-66), 0);
        same("to 1000", busy().stretch(934), 1000);
        LinkMill y = new LinkMill();
        y.stretch(1000);
        int[] none = {1, -1001, GREATEST, LEAST};
        for (int by : none) {
            fails("1000 and " + by, ARGUMENT, () -> y.stretch(by));
        }
        same("as many as before", y.about(0), 1000);
    }

    // ---- promise 11

    private static void read() {
        holds("Promise 11", "Reads the image. 0, and it can be run from its beginning;"
                + " or what is wrong, and all else stays.");
        int[][] halts = {in(PLUS, 31, 0, 5), in(SHOW, 31, 0, 0), in(STORE, 31, 0, 64), in(HALT, 0, 0, 0)};
        int[][] fails = {in(PLUS, 31, 0, 5), in(SHOW, 31, 0, 0), in(STORE, 31, 0, 64), in(STORE, 0, 0, 0)};
        int[][][] programs = {halts, fails};
        for (int[][] code : programs) {
            LinkMill x = program(0, code, 3);
            for (int turn = 0; turn < 3; turn++) {
                same("runs", x.about(1), RUNS);
                same("PC", x.about(2), 0);
                same("instructions and numbers", x.about(3) + x.about(4), 0);
                same("shown", x.shown(0), NONE);
                same("register 31", x.register(31), 0);
                same("data", x.memory(64), 3);
                same("run", x.run(500), 4);
                same("ended", x.about(1), code == halts ? HALTED : FAILED);
                same("stored", x.memory(64), 5);
                same("read again", x.read(), 0);
            }
        }
        LinkMill y = machine(0, new int[] {wordOf(PLUS, 1, 1, 1), wordOf(CALL, 0, 0, -2)}, 64);
        y.run(3);
        same("read while it runs", y.read(), 0);
        same("from its beginning", y.about(2) + y.register(1) + y.about(3), 0);
    }

    private static void readOfAThousand() {
        holds("Promise 11", "Reads the image. 0, and it can be run from its beginning;"
                + " or what is wrong, and all else stays.");
        int[] codes = {1, 120, 241};
        for (int codeWords : codes) {
            int dataWords = 241 - codeWords;
            int data = (4 * codeWords + 63) / 64 * 64;
            LinkMill x = sound(4 * codeWords - 4, 0, codeWords, data, dataWords);
            same("bytes", x.about(0), 1000);
            setImageWord(x, 32 + 4 * codeWords, wordOf(PLUS, 1, 0, 7));
            setImageWord(x, 996, codeWords == 241 ? wordOf(PLUS, 1, 0, 7) : -5);
            same("read", x.read(), 0);
            same("the last word", x.memory(codeWords == 241 ? 960 : data + 4 * dataWords - 4),
                    codeWords == 241 ? wordOf(PLUS, 1, 0, 7) : -5);
            fails("behind the last word", INDEX, () -> x.memory(data + 4 * dataWords));
            same("the last of the code", x.run(1), 1);
            same("register", x.register(1), 7);
        }
    }

    private static void readRefused() {
        holds("Promise 11", "Reads the image. 0, and it can be run from its beginning;"
                + " or what is wrong, and all else stays.");
        for (int k = 0; k < 9; k++) {
            final int wrong = k;
            idle("wrong word " + k, -1 - k, () -> wrongWord(wrong), x -> x.read());
        }
        idle("too many bytes", -10, () -> stretched(1), x -> x.read());
        idle("too few bytes", -10, () -> stretched(-1), x -> x.read());
        idle("no byte", -1, () -> stretched(-64), x -> x.read());
        idle("nothing was ever read", -1, LinkMill::new, x -> x.read());
    }

    private static LinkMill wrongWord(int k) {
        LinkMill x = stretched(0);
        setImageWord(x, 4 * k, imageWord(x, 4 * k) + 1);
        return x;
    }

    private static LinkMill stretched(int by) {
        LinkMill x = busy();
        x.link(128, 0);
        x.stretch(by);
        return x;
    }
}
