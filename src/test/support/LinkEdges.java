import java.util.function.Supplier;

/** The edges of a link: where things come to stand, what fixes make, and what is refused. */
final class LinkEdges extends Edges {
    private static final int WHOLE = 0, UP = 1, LOW = 2, NEAR = 3, FAR = 4;
    private static final Supplier<LinkMill> BUSY = Checks::busy;

    private LinkEdges() {
    }

    static void all() {
        codes();
        data();
        dataOfAll();
        valueOfDefinition();
        nameOfFix();
        whole();
        upper();
        lower();
        upperAndLower();
        near();
        far();
        reach();
        otherBits();
        orderOfFixes();
        orderOfRefusals();
        doubledNames();
        missingNames();
        outOfReach();
        entry();
        allObjects();
        answers();
        arguments();
        value();
    }

    // ---- Terms

    private static void codes() {
        holds(LINK, "TO LINK: at BASE, all codes one behind the other, in the order of the objects;");
        int[] bases = {0, 4, 999999996, 1000000000};
        for (int base : bases) {
            LinkMill x = new LinkMill();
            for (int o = 3; o >= 0; o--) {
                x.define(o, o, CODE, 0, true);
            }
            same("no code", x.link(base, 0), 36);
            for (int o = 0; o < 4; o++) {
                same("object " + o + " without code", x.value(o), base);
            }
            x.put(3, SHOW, 3, 0, 0);
            x.put(1, SHOW, 1, 0, 0);
            same("two words", x.link(base, 3), 44);
            int[] starts = {0, 0, 4, 4};
            for (int o = 0; o < 4; o++) {
                same("object " + o, x.value(o), base + starts[o]);
            }
            same("the first", imageWord(x, 36), wordOf(SHOW, 1, 0, 0));
            same("the next", imageWord(x, 40), wordOf(SHOW, 3, 0, 0));
        }
        LinkMill y = new LinkMill();
        for (int o = 0; o < 4; o++) {
            y.define(o, o, CODE, 0, true);
            for (int i = 0; i < 24; i++) {
                y.put(o, SHOW, o, 0, 0);
            }
        }
        same("full codes", y.link(1000000000, 0), 36 + 384);
        for (int o = 0; o < 4; o++) {
            same("full object " + o, y.value(o), 1000000000 + 96 * o);
            same("its first word", imageWord(y, 36 + 96 * o), wordOf(SHOW, o, 0, 0));
            same("its last word", imageWord(y, 36 + 96 * o + 92), wordOf(SHOW, o, 0, 0));
        }
    }

    private static final String DATA_FROM = "the data likewise, from the next address on that is a multiple of 64 and"
            + " not below the code's end.";

    /** Where the data stands behind so many words of code. */
    private static int dataFrom(int base, int codeWords) {
        LinkMill x = new LinkMill();
        for (int i = 0; i < codeWords; i++) {
            x.put(2, HALT, 0, 0, 0);
        }
        x.word(1, 7);
        x.define(1, 0, DATA, 0, true);
        same("link", x.link(base, 0), 36 + 4 * codeWords + 4);
        same("its address in the image", imageWord(x, 20), x.value(0));
        return x.value(0);
    }

    private static void data() {
        holds(LINK, DATA_FROM);
        same("no code at 0", dataFrom(0, 0), 0);
        same("no code at 4", dataFrom(4, 0), 64);
        same("no code at 60", dataFrom(60, 0), 64);
        same("no code at 64", dataFrom(64, 0), 64);
        same("one word at 0", dataFrom(0, 1), 64);
        same("the code's end at 60", dataFrom(0, 15), 64);
        same("the code's end at 64", dataFrom(0, 16), 64);
        same("the code's end at 68", dataFrom(0, 17), 128);
        same("the code's end at 64", dataFrom(60, 1), 64);
        same("the code's end at 128", dataFrom(32, 24), 128);
        same("the code's end at 132", dataFrom(36, 24), 192);
        same("no code at the greatest base", dataFrom(1000000000, 0), 1000000000);
        same("one word at the greatest base", dataFrom(1000000000, 1), 1000000064);
        same("one word before it", dataFrom(999999996, 1), 1000000000);
    }

    private static void dataOfAll() {
        holds(LINK, DATA_FROM);
        LinkMill x = new LinkMill();
        for (int o = 3; o >= 0; o--) {
            x.define(o, o, DATA, 0, true);
            // Object 2 is left without data.
            for (int i = 0; i < 12 && o != 2; i++) {
                x.word(o, 100 * o + i);
            }
        }
        x.put(3, HALT, 0, 0, 0);
        same("link", x.link(0, 0), 36 + 4 + 144);
        int[] starts = {64, 112, 160, 160};
        for (int o = 0; o < 4; o++) {
            same("object " + o, x.value(o), starts[o]);
        }
        int[] objects = {0, 1, 3};
        for (int i = 0; i < 3; i++) {
            same("the first word", imageWord(x, 40 + 48 * i), 100 * objects[i]);
            same("the last word", imageWord(x, 40 + 48 * i + 44), 100 * objects[i] + 11);
        }
    }

    private static void valueOfDefinition() {
        holds(LINK, "The VALUE of a definition is the address of its place.");
        LinkMill x = full(1);
        x.put(0, HALT, 0, 0, 0);
        x.word(0, 0);
        x.define(0, 8, CODE, 1, true);
        x.define(2, 9, CODE, 0, true);
        x.define(2, 10, DATA, 0, true);
        x.define(3, 11, CODE, 0, true);
        same("link", x.link(4, 0), 36 + 100 + 52);
        same("the first place", x.value(0), 8);
        same("right behind the word of object 0, the same", x.value(8), 8);
        same("place 6 of the code", x.value(6), 8 + 24);
        same("place 7 of the data", x.value(7), 128 + 4 + 28);
        same("behind a full code", x.value(9), 8 + 96);
        same("behind a full data", x.value(10), 128 + 52);
        same("behind it all", x.value(11), 8 + 96);
        LinkMill y = new LinkMill();
        y.define(0, 0, CODE, 0, true);
        y.put(0, HALT, 0, 0, 0);
        y.define(0, 1, CODE, 1, true);
        y.put(0, HALT, 0, 0, 0);
        same("link", y.link(0, 0), 44);
        same("the least value", y.value(0), 0);
        same("a place that got its word later", y.value(1), 4);
    }

    private static void nameOfFix() {
        holds(LINK, "A name that a fix of an object needs is its own definition, if it has one; else the global one"
                + " of any object.");
        // Object needs name 5, which stands at its own place 1 and, global, at place 0 of another's code.
        for (int own = 0; own < 3; own++) {
            for (int o = 0; o < 4; o++) {
                LinkMill x = new LinkMill();
                x.put(o, HALT, 0, 0, 0);
                x.fix(o, CODE, 0, WHOLE, 5, 0);
                if (own > 0) {
                    x.define(o, 5, CODE, 1, own == 2);
                }
                int other = 3 - o;
                x.put(other, SHOW, 1, 0, 0);
                x.define(other, 0, CODE, 0, true);
                x.define(other, 5, CODE, 0, own < 2);
                same("link", x.link(400, 0), 44);
                int at = o < other ? 0 : 4;
                same("own " + own + " in object " + o, imageWord(x, 36 + at), own == 0 ? 404 - at : 404 + at);
            }
        }
        LinkMill y = new LinkMill();
        y.put(0, HALT, 0, 0, 0);
        y.define(0, 0, CODE, 0, true);
        y.fix(0, CODE, 0, WHOLE, 5, 0);
        y.define(1, 5, CODE, 0, false);
        same("another's that is not global", y.link(0, 0), -2000);
    }

    /** What a fix makes of a word of data, for V; the data is at the multiple of 64 behind the base. Or the refusal. */
    private static int fixed(int base, int bits, int kind, int add) {
        LinkMill x = new LinkMill();
        x.put(0, HALT, 0, 0, 0);
        x.word(0, bits);
        x.define(0, 0, CODE, 0, true);
        x.define(0, 1, DATA, 0, false);
        x.fix(0, DATA, 0, kind, 1, add);
        int answer = x.link(base, 0);
        return answer < 0 ? answer : imageWord(x, 40);
    }

    /** Likewise for a V of -19936 .. 20064, with the data at 64. */
    private static int fixedTo(int bits, int kind, int v) {
        return fixed(0, bits, kind, v - 64);
    }

    private static void whole() {
        holds(LINK, "FIXES, with V the value plus add, and P the address of the word: 0 WHOLE: the word becomes V");
        int[] bits = {0, -1, LEAST, GREATEST};
        for (int w : bits) {
            same("the least add", fixed(0, w, WHOLE, -20000), 64 - 20000);
            same("V is -1", fixed(0, w, WHOLE, -65), -1);
            same("V is 0", fixed(0, w, WHOLE, -64), 0);
            same("no add", fixed(0, w, WHOLE, 0), 64);
            same("the greatest add", fixed(0, w, WHOLE, 20000), 20064);
            same("the greatest base", fixed(1000000000, w, WHOLE, 20000), 1000020064);
        }
    }

    private static void upper() {
        holds(LINK, "1 UPPER: c of the word (bits 12 .. 31) becomes (V + 2048) / 4096, rounded down");
        int[] values = {-19936, -6145, -6144, -2049, -2048, -2047, -1, 0, 1, 2047, 2048, 6143, 6144, 20064};
        int[] uppers = {-5, -2, -1, -1, 0, 0, 0, 0, 0, 0, 1, 1, 2, 5};
        for (int i = 0; i < values.length; i++) {
            same("V is " + values[i], fixedTo(0, UP, values[i]), uppers[i] * 4096);
            same("V is " + values[i], fixedTo(-1, UP, values[i]), uppers[i] * 4096 + 4095);
        }
        same("the greatest V", fixed(1000000000, 0, UP, 20000), (1000020064 + 2048) / 4096 * 4096);
    }

    private static void lower() {
        holds(LINK, "2 LOWER: c in bits 20 .. 31 becomes the low 12 bits of V");
        int[] values = {-19936, -4097, -4096, -4095, -1, 0, 1, 2047, 2048, 4095, 4096, 4097, 20064};
        int[] lowers = {544, 4095, 0, 1, 4095, 0, 1, 2047, 2048, 4095, 0, 1, 3680};
        for (int i = 0; i < values.length; i++) {
            same("V is " + values[i], fixedTo(0, LOW, values[i]), lowers[i] << 20);
            same("V is " + values[i], fixedTo(-1, LOW, values[i]), lowers[i] << 20 | 0xfffff);
        }
        same("the greatest V", fixed(1000000000, 0, LOW, 20000), 1000020064 % 4096 << 20);
    }

    private static void upperAndLower() {
        holds(LINK, "2 LOWER: c in bits 20 .. 31 becomes the low 12 bits of V");
        int[] adds = {-20000, -2049, -2048, -1, 0, 1, 2047, 2048, 4095, 4096, 20000};
        for (int add : adds) {
            LinkMill x = new LinkMill();
            x.define(0, 0, CODE, 0, true);
            x.put(0, UPPER, 1, 0, 0);
            x.put(0, PLUS, 1, 1, 0);
            x.fix(0, CODE, 0, UP, 0, add);
            x.fix(0, CODE, 1, LOW, 0, add);
            x.link(8192, 0);
            x.read();
            x.run(2);
            same("both together make V", x.register(1), 8192 + add);
        }
    }

    private static void near() {
        holds(LINK, "3 NEAR: c in bits 20 .. 31 becomes (V - P) / 2");
        int[] distances = {-4096, -4094, -4, -2, 0, 2, 4, 4092, 4094};
        for (int d : distances) {
            same("distance " + d, fixed(0, 0, NEAR, d), d / 2 << 20);
            same("distance " + d, fixed(1000000000, -1, NEAR, d), d / 2 << 20 | 0xfffff);
        }
        LinkMill x = new LinkMill();
        x.put(0, IFSAME, 0, 0, 0);
        x.put(0, IFSAME, 0, 0, 0);
        x.define(0, 0, CODE, 0, true);
        x.define(0, 1, CODE, 2, false);
        x.fix(0, CODE, 0, NEAR, 1, 0);
        x.fix(0, CODE, 1, NEAR, 0, 0);
        x.link(64, 0);
        same("P is the word's own address", imageWord(x, 36), wordOf(IFSAME, 0, 0, 4));
        same("P is the word's own address", imageWord(x, 40), wordOf(IFSAME, 0, 0, -2));
    }

    private static void far() {
        holds(LINK, "4 FAR: c in bits 10 .. 31 becomes (V - P) / 2.");
        int[] distances = {-20000, -4098, -4096, -2, 0, 2, 4094, 4096, 20000};
        for (int d : distances) {
            same("distance " + d, fixed(0, 0, FAR, d), d / 2 << 10);
            same("distance " + d, fixed(1000000000, -1, FAR, d), d / 2 << 10 | 0x3ff);
        }
        // From the first word of four full codes to behind the last data: no two places are further apart.
        LinkMill x = new LinkMill();
        for (int o = 0; o < 4; o++) {
            for (int i = 0; i < 24; i++) {
                x.put(o, HALT, 0, 0, 0);
            }
            for (int i = 0; i < 12; i++) {
                x.word(o, 0);
            }
        }
        x.define(0, 0, CODE, 0, true);
        x.define(3, 1, DATA, 12, true);
        x.fix(0, CODE, 0, FAR, 1, 20000);
        x.fix(3, DATA, 11, FAR, 0, -20000);
        same("link", x.link(4, 0), 612);
        same("the greatest distance", imageWord(x, 36), (448 + 192 + 20000 - 4) / 2 << 10);
        same("the least distance", imageWord(x, 608), (4 - 20000 - 448 - 188) / 2 << 10);
    }

    private static void reach() {
        holds(LINK, "With 3 and 4 V - P must be even, and the half of it fit c: else it is OUT OF REACH.");
        int[] bases = {0, 1000000000};
        for (int base : bases) {
            same("the greatest half", fixed(base, 0, NEAR, 4094), 2047 << 20);
            same("one beyond", fixed(base, 0, NEAR, 4096), -3000);
            same("odd, between them", fixed(base, 0, NEAR, 4095), -3000);
            same("the least half", fixed(base, 0, NEAR, -4096), -2048 << 20);
            same("one below", fixed(base, 0, NEAR, -4098), -3000);
            same("odd, between them", fixed(base, 0, NEAR, -4097), -3000);
            same("odd", fixed(base, 0, NEAR, 1), -3000);
            same("odd below 0", fixed(base, 0, NEAR, -1), -3000);
            same("the greatest add", fixed(base, 0, NEAR, 20000), -3000);
            same("the least add", fixed(base, 0, NEAR, -20000), -3000);
            same("FAR, odd", fixed(base, 0, FAR, 1), -3000);
            same("FAR, odd below 0", fixed(base, 0, FAR, -1), -3000);
            same("FAR, the greatest odd add", fixed(base, 0, FAR, 19999), -3000);
            same("FAR, the least odd add", fixed(base, 0, FAR, -19999), -3000);
            same("WHOLE may be odd", fixed(base, 0, WHOLE, 1), fixed(base, 0, WHOLE, 0) + 1);
            same("UPPER may be odd and far", fixed(base, 0, UP, 19999) < 0 ? 1 : 0, 0);
            same("LOWER may be odd and far", fixed(base, 0, LOW, -19999) == -3000 ? 1 : 0, 0);
        }
    }

    private static void otherBits() {
        holds(LINK, "All other bits stay.");
        int[] kept = {0, 0xfff, 0xfffff, 0xfffff, 0x3ff};
        for (int kind = WHOLE; kind <= FAR; kind++) {
            int[] bits = {0, -1, 0x55555555, 0xaaaaaaaa};
            int made = fixedTo(0, kind, 64);
            for (int w : bits) {
                same("kind " + kind + " on " + w, fixedTo(w, kind, 64), made | w & kept[kind]);
            }
        }
        LinkMill x = new LinkMill();
        x.word(0, -1);
        x.word(0, 5);
        x.word(0, -1);
        x.define(0, 0, DATA, 0, true);
        x.fix(0, DATA, 1, WHOLE, 0, 20000);
        x.link(0, 0);
        same("the word before", imageWord(x, 36), -1);
        same("the word", imageWord(x, 40), 20000);
        same("the word behind", imageWord(x, 44), -1);
    }

    private static void orderOfFixes() {
        holds(LINK, "Fixes are made in order; later ones on what earlier ones made.");
        LinkMill x = new LinkMill();
        x.word(0, -1);
        x.define(0, 0, DATA, 0, true);
        x.fix(0, DATA, 0, WHOLE, 0, 0x1234);
        same("link", x.link(0, 0), 40);
        same("WHOLE", imageWord(x, 36), 0x1234);
        x.fix(0, DATA, 0, UP, 0, 0x3000);
        same("link", x.link(0, 0), 40);
        same("UPPER on it", imageWord(x, 36), 0x3234);
        x.fix(0, DATA, 0, LOW, 0, 0x123);
        same("link", x.link(0, 0), 40);
        same("LOWER on that", imageWord(x, 36), 0x12303234);
        x.fix(0, DATA, 0, FAR, 0, 6);
        same("link", x.link(0, 0), 40);
        same("FAR on that", imageWord(x, 36), 0xe34);
        x.fix(0, DATA, 0, NEAR, 0, -2);
        same("link", x.link(0, 0), 40);
        same("NEAR on that", imageWord(x, 36), 0xfff00e34);
        for (int k = 5; k < 16; k++) {
            x.fix(0, DATA, 0, WHOLE, 0, k);
        }
        same("link", x.link(0, 0), 40);
        same("the 16th of them", imageWord(x, 36), 15);
    }

    private static void orderOfRefusals() {
        holds(LINK, "It is REFUSED, by the first of these that is so (in this order):");
        // The later a kind stands in the order, the earlier the object that has it.
        LinkMill x = new LinkMill();
        same("no entry", x.link(0, 9), -4009);
        x.put(0, HALT, 0, 0, 0);
        x.define(0, 0, CODE, 0, false);
        x.fix(0, CODE, 0, NEAR, 0, 1);
        same("out of reach before that", x.link(0, 9), -3000);
        x.put(1, HALT, 0, 0, 0);
        x.fix(1, CODE, 0, WHOLE, 1, 0);
        same("no name before that", x.link(0, 9), -2100);
        x.define(3, 15, CODE, 0, false);
        x.define(3, 15, CODE, 0, false);
        same("two definitions before that", x.link(0, 9), -1015);
        x.clear(3);
        same("no name again", x.link(0, 9), -2100);
        x.clear(1);
        same("out of reach again", x.link(0, 9), -3000);
        x.clear(0);
        same("no entry again", x.link(0, 9), -4009);
        x.define(2, 9, DATA, 0, true);
        same("none of these", x.link(0, 9), 36);
    }

    private static void doubledNames() {
        holds(LINK, "-1000 - n: name n (the least) has two definitions in one object, or global ones in two;");
        int[] names = {0, 15};
        for (int name : names) {
            for (int globals = 0; globals < 4; globals++) {
                for (int o = 0; o < 4; o++) {
                    LinkMill x = new LinkMill();
                    x.define(o, 7, CODE, 0, true);
                    x.define(o, name, CODE, 0, globals % 2 == 1);
                    x.define(o, name, CODE, 0, globals / 2 == 1);
                    same("two in object " + o, x.link(0, 7), -1000 - name);
                    LinkMill y = new LinkMill();
                    y.define(1, 7, CODE, 0, true);
                    y.define(o, name, CODE, 0, globals % 2 == 1);
                    y.define(3 - o, name, CODE, 0, globals / 2 == 1);
                    same("one each in two", y.link(0, 7), globals == 3 ? -1000 - name : 36);
                }
            }
        }
        LinkMill z = new LinkMill();
        for (int o = 0; o < 4; o++) {
            z.define(o, 3, CODE, 0, false);
        }
        z.define(0, 0, CODE, 0, true);
        same("one in each, none global", z.link(0, 0), 36);
        z.define(0, 9, CODE, 0, true);
        z.define(1, 9, CODE, 0, true);
        same("name 9", z.link(0, 0), -1009);
        z.define(2, 4, CODE, 0, false);
        z.define(2, 4, CODE, 0, false);
        same("the least is name 4", z.link(0, 0), -1004);
        z.define(3, 3, CODE, 0, false);
        same("the least is name 3", z.link(0, 0), -1003);
    }

    private static void missingNames() {
        holds(LINK, "-2000 - 100 o - k: fix k of object o (the first) needs a name that there is not;");
        for (int o = 3; o >= 0; o--) {
            int[] places = {0, 15};
            for (int k : places) {
                LinkMill x = withFixes(o, k, WHOLE, 15, 0);
                same("fix " + k + " of object " + o, x.link(0, 0), -2000 - 100 * o - k);
                x.define(o ^ 1, 15, CODE, 0, false);
                same("not global in another", x.link(0, 0), -2000 - 100 * o - k);
                x.define(o ^ 2, 15, CODE, 0, true);
                same("global in another", x.link(0, 0), 40);
            }
        }
        LinkMill y = withFixes(3, 2, WHOLE, 15, 0);
        y.fix(3, CODE, 0, WHOLE, 14, 0);
        same("the first of two", y.link(0, 0), -2302);
        y.put(1, HALT, 0, 0, 0);
        y.fix(1, CODE, 0, WHOLE, 13, 0);
        same("the first object", y.link(0, 0), -2100);
    }

    /** Fixes that can be made, on the only word of an object, and behind them, as the k-th, one that is given. */
    private static LinkMill withFixes(int o, int k, int kind, int name, int add) {
        LinkMill x = new LinkMill();
        x.put(o, HALT, 0, 0, 0);
        x.define(o, 0, CODE, 0, true);
        for (int i = 0; i < k; i++) {
            x.fix(o, CODE, 0, FAR, 0, 2 * i);
        }
        same("fixes", x.fix(o, CODE, 0, kind, name, add), k + 1);
        return x;
    }

    private static void outOfReach() {
        holds(LINK, "-3000 - 100 o - k: it is out of reach;");
        for (int o = 3; o >= 0; o--) {
            int[] places = {0, 15};
            for (int k : places) {
                int refusal = -3000 - 100 * o - k;
                same("odd", withFixes(o, k, FAR, 0, -19999).link(0, 0), refusal);
                same("too far", withFixes(o, k, NEAR, 0, 4096).link(0, 0), refusal);
                same("near enough", withFixes(o, k, NEAR, 0, 4094).link(0, 0), 40);
            }
        }
        LinkMill x = withFixes(3, 2, NEAR, 0, 4096);
        x.fix(3, CODE, 0, NEAR, 0, 1);
        same("the first of two", x.link(0, 0), -3302);
        x.put(1, HALT, 0, 0, 0);
        x.fix(1, CODE, 0, FAR, 0, 1);
        same("the first object", x.link(0, 0), -3100);
    }

    private static void entry() {
        holds(LINK, "-4000 - n: the ENTRY n has no global definition.");
        for (int name = 0; name < 16; name++) {
            LinkMill x = new LinkMill();
            same("no definition", x.link(0, name), -4000 - name);
            x.define(0, name, CODE, 0, false);
            x.define(3, name, DATA, 0, false);
            same("none that is global", x.link(0, name), -4000 - name);
            x.define(1, name, CODE, 0, true);
            same("one that is", x.link(0, name), 36);
            same("another name", x.link(0, 15 - name), -4000 - (15 - name));
        }
    }

    // ---- promise 7

    private static void allObjects() {
        holds("Promise 7", "Links all objects.");
        for (int o = 0; o < 4; o++) {
            LinkMill x = full(o);
            same("one that is full", x.link(0, 0), 36 + 96 + 48);
            same("its first word", imageWord(x, 36), wordOf(PLUS, 1, 1, 0));
            same("its last word", imageWord(x, 36 + 96 + 44), 111);
        }
        LinkMill y = new LinkMill();
        y.define(3, 0, DATA, 0, true);
        same("none has a word", y.link(0, 0), 36);
    }

    private static final String ANSWERS =
            "Answers how many bytes the image has, or why it is refused (the image stays then).";

    private static void answers() {
        holds("Promise 7", ANSWERS);
        LinkMill x = new LinkMill();
        x.define(0, 0, CODE, 0, true);
        same("the fewest", x.link(0, 0), 36);
        same("as many", x.about(0), 36);
        for (int o = 0; o < 4; o++) {
            for (int i = 0; i < 24; i++) {
                x.put(o, HALT, 0, 0, 0);
            }
            for (int i = 0; i < 12; i++) {
                x.word(o, -1);
            }
        }
        same("the most", x.link(0, 0), 612);
        same("as many", x.about(0), 612);
        same("the last byte", x.image(611), 255);
        same("behind it", x.image(612), NONE);
        x.stretch(388);
        same("the same from an image of 1000", x.link(0, 0), 612);
        same("as many", x.about(0), 612);
        idle("doubled", -1005, () -> twice(busy()), y -> y.link(64, 0));
        idle("no name", -2002, () -> nameless(busy()), y -> y.link(64, 0));
        idle("out of reach", -3002, () -> tooFar(busy()), y -> y.link(64, 0));
        idle("no entry", -4002, BUSY, y -> y.link(64, 2));
    }

    private static LinkMill twice(LinkMill x) {
        x.define(2, 5, CODE, 0, false);
        x.define(2, 5, CODE, 0, false);
        return x;
    }

    private static LinkMill nameless(LinkMill x) {
        x.fix(0, CODE, 0, WHOLE, 5, 0);
        return x;
    }

    private static LinkMill tooFar(LinkMill x) {
        x.fix(0, CODE, 0, NEAR, 0, 4096);
        return x;
    }

    private static void arguments() {
        holds("Promise 7",
                "IllegalArgumentException: base is not a multiple of 4, 0 .. 1000000000, or entry no name.");
        int[] noBase = {-4, -1, 1, 2, 3, 999999999, 1000000001, 1000000004, LEAST, GREATEST, GREATEST - 3};
        for (int base : noBase) {
            refused("base " + base, ARGUMENT, BUSY, x -> x.link(base, 0));
        }
        int[] noName = {-1, 16, LEAST, GREATEST};
        for (int entry : noName) {
            refused("entry " + entry, ARGUMENT, BUSY, x -> x.link(0, entry));
        }
        refused("base -4, where it would be refused", ARGUMENT, () -> twice(busy()), x -> x.link(-4, 0));
        LinkMill y = busy();
        same("the least base", y.link(0, 0), 64);
        same("the next", y.link(4, 0), 64);
        same("the last but one", y.link(999999996, 0), 64);
        same("the greatest base", y.link(1000000000, 0), 64);
        y.define(3, 15, CODE, 0, true);
        same("the greatest name", y.link(0, 15), 64);
    }

    // ---- promise 13

    private static void value() {
        holds("Promise 13", "The value of a name as global in the latest link that was not refused;"
                + " NONE when there is none.");
        int[] noName = {-1, 16, LEAST, GREATEST};
        for (int name : noName) {
            idle("name " + name, NONE, BUSY, x -> x.value(name));
        }
        LinkMill x = new LinkMill();
        x.define(0, 0, CODE, 0, true);
        x.define(0, 15, CODE, 0, true);
        x.define(0, 7, CODE, 0, false);
        same("no link", x.value(0), NONE);
        same("refused", x.link(0, 1), -4001);
        same("no link that was not refused", x.value(0), NONE);
        same("link", x.link(0, 0), 36);
        same("the least value and name", x.value(0), 0);
        same("the greatest name", x.value(15), 0);
        same("not global", x.value(7), NONE);
        same("no definition", x.value(1), NONE);
        x.define(1, 7, DATA, 0, true);
        same("link", x.link(1000000000, 0), 36);
        same("the global one of two", x.value(7), 1000000000);
        same("refused", x.link(4, 1), -4001);
        same("as before", x.value(15), 1000000000);
        x.clear(0);
        x.clear(1);
        same("refused", x.link(4, 0), -4000);
        same("as before, without a definition", x.value(15), 1000000000);
        x.define(2, 1, CODE, 0, true);
        same("link", x.link(4, 1), 36);
        same("there is none any more", x.value(15), NONE);
        same("the new one", x.value(1), 4);
        x.stretch(-36);
        same("without the image", x.value(1), 4);
    }
}
