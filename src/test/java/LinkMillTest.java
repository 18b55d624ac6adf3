/** Each promise of the document, in runs of several calls; the edges that it names are in EdgesTest. */
public final class LinkMillTest extends Checks {
    public static void main(String[] args) {
        newObject();
        putWords();
        word();
        define();
        fix();
        clear();
        linkLayout();
        linkFixes();
        linkNames();
        linkRefusals();
        linkManyFixes();
        linkRefusalOrder();
        image();
        alter();
        stretch();
        readHeaderWords();
        readState();
        runArithmetic();
        runRegisterZero();
        runMemory();
        runJumps();
        runUntoldBits();
        runEnds();
        value();
        register();
        memory();
        shown();
        about();
        object();
        end();
    }

    /** What a fix makes of a word of data at 4096, for a name at that word; or why the link is refused. */
    private static int fixed(int bits, int kind, int add) {
        return fixedAt(4032, bits, kind, add);
    }

    /** Likewise with the code, a single word, at a base, so that the data stands at the next multiple of 64. */
    private static int fixedAt(int base, int bits, int kind, int add) {
        LinkMill x = new LinkMill();
        x.put(0, HALT, 0, 0, 0);
        x.word(0, bits);
        x.define(0, 0, 0, 0, true);
        x.define(0, 1, 1, 0, false);
        x.fix(0, 1, 0, kind, 1, add);
        int answer = x.link(base, 0);
        return answer < 0 ? answer : imageWord(x, 40);
    }

    // ---- promise 1

    private static void newObject() {
        topic = "promise 1";
        LinkMill x = new LinkMill();
        same("NONE", LinkMill.NONE, -1);
        for (int o = 0; o < 4; o++) {
            for (int what = 0; what < 4; what++) {
                same("object", x.object(o, what), 0);
            }
        }
        for (int what = 0; what < 5; what++) {
            same("about " + what, x.about(what), 0);
        }
        for (int name = 0; name < 16; name++) {
            same("value", x.value(name), NONE);
        }
        same("image", x.image(0), NONE);
        same("register", x.register(1), 0);
        same("shown", x.shown(0), NONE);
        same("read", x.read(), -1);
        fails("memory", INDEX, () -> x.memory(0));
        fails("run", STATE, () -> x.run(1));
        fails("alter", ARGUMENT, () -> x.alter(0, 0));
        LinkMill y = new LinkMill();
        x.put(0, HALT, 0, 0, 0);
        same("another object's code", y.object(0, 0), 0);
    }

    // ---- promise 2

    private static void putWords() {
        topic = "promise 2";
        same("HALT", encoded(HALT, 31, 31, 12345678), 0);
        same("SHOW", encoded(SHOW, 31, 31, -12345678), 18 | 31 << 5);
        same("UPPER", encoded(UPPER, 31, 31, 1), 1 | 31 << 5 | 1 << 12);
        same("UPPER least", encoded(UPPER, 0, 0, -524288), 1 | 0x80000000);
        same("UPPER greatest", encoded(UPPER, 0, 0, 524287), 1 | 0x7ffff000);
        same("CALL", encoded(CALL, 31, 31, 1), 16 | 31 << 5 | 1 << 10);
        same("CALL least", encoded(CALL, 0, 0, -2097152), 16 | 0x80000000);
        same("CALL greatest", encoded(CALL, 0, 0, 2097151), 16 | 0x7ffffc00);
        for (int op = SUM; op <= BELOW; op++) {
            same("three registers", encoded(op, 1, 2, 31), op | 1 << 5 | 2 << 10 | 31 << 15);
            same("three registers", encoded(op, 31, 31, 0), op | 31 << 5 | 31 << 10);
        }
        int[] shorts = {PLUS, LOAD, STORE, IFSAME, IFOTHER, IFBELOW, BACK};
        for (int op : shorts) {
            same("c 2047", encoded(op, 3, 31, 2047), op | 3 << 5 | 31 << 10 | 2047 << 20);
            same("c -2048", encoded(op, 31, 4, -2048), op | 31 << 5 | 4 << 10 | 0x80000000);
            same("c -1", encoded(op, 0, 0, -1), op | 0xfff00000);
        }
    }

    // ---- promise 3

    private static void word() {
        topic = "promise 3";
        LinkMill x = new LinkMill();
        int[] words = {0, -1, Integer.MAX_VALUE, Integer.MIN_VALUE, 0x12345678, 5, 6, 7, 8, 9, 10, 11};
        for (int i = 0; i < 12; i++) {
            same("place", x.word(3, words[i]), i);
        }
        fails("full", STATE, () -> x.word(3, 1));
        fails("object -1", ARGUMENT, () -> x.word(-1, 1));
        fails("object 4", ARGUMENT, () -> x.word(4, 1));
        same("data", x.object(3, 1), 12);
        same("code", x.object(3, 0), 0);
        x.define(3, 0, 1, 0, true);
        x.link(0, 0);
        for (int i = 0; i < 12; i++) {
            same("word", imageWord(x, 36 + 4 * i), words[i]);
        }
        same("another object", x.word(0, 1), 0);
    }

    // ---- promise 4

    private static void define() {
        topic = "promise 4";
        LinkMill x = new LinkMill();
        x.put(1, HALT, 0, 0, 0);
        x.put(1, HALT, 0, 0, 0);
        x.word(1, 0);
        same("first word", x.define(1, 0, 0, 0, true), 1);
        same("behind the last", x.define(1, 15, 0, 2, true), 2);
        same("data", x.define(1, 2, 1, 0, true), 3);
        same("behind the data", x.define(1, 3, 1, 1, true), 4);
        same("not global", x.define(1, 4, 1, 1, false), 5);
        same("of another", x.define(2, 5, 0, 0, true), 1);
        x.put(1, HALT, 0, 0, 0);
        same("the place stays when words come", x.link(0, 0), 36 + 12 + 4);
        same("value", x.value(0), 0);
        same("value", x.value(15), 8);
        same("value", x.value(2), 64);
        same("value", x.value(3), 68);
        same("value", x.value(4), NONE);
        same("value", x.value(5), 12);
    }

    // ---- promise 5

    private static void fix() {
        topic = "promise 5";
        LinkMill x = new LinkMill();
        x.put(2, HALT, 0, 0, 0);
        x.word(2, 0);
        same("code", x.fix(2, 0, 0, 0, 0, -20000), 1);
        same("data", x.fix(2, 1, 0, 4, 15, 20000), 2);
        for (int i = 3; i <= 16; i++) {
            same("how many", x.fix(2, 0, 0, 0, 0, 0), i);
        }
        fails("full", STATE, () -> x.fix(2, 0, 0, 0, 0, 0));
        fails("full, wrong kind", ARGUMENT, () -> x.fix(2, 0, 0, 5, 0, 0));
        fails("full, wrong place", ARGUMENT, () -> x.fix(2, 0, 1, 0, 0, 0));
        same("fixes", x.object(2, 3), 16);
    }

    // ---- promise 6

    private static void clear() {
        topic = "promise 6";
        LinkMill x = linked(2);
        x.fix(0, 0, 0, 0, 0, 0);
        x.word(1, 5);
        same("read", x.read(), 0);
        same("clear", x.clear(0) ? 1 : 0, 1);
        for (int what = 0; what < 4; what++) {
            same("object", x.object(0, what), 0);
        }
        same("another stays", x.object(1, 1), 1);
        same("image stays", x.about(0), 48);
        same("value stays", x.value(0), 128);
        same("what was read stays", x.memory(128), 0);
        same("no definition", x.link(128, 0), -4000);
        same("empty again", x.put(0, SHOW, 1, 0, 0), 0);
        same("empty again", x.word(0, 1), 0);
        same("empty again", x.define(0, 0, 0, 0, true), 1);
        same("empty again", x.fix(0, 0, 0, 0, 0, 0), 1);
        same("clear an empty one", x.clear(3) ? 1 : 0, 1);
        fails("object -1", ARGUMENT, () -> x.clear(-1));
        fails("object 4", ARGUMENT, () -> x.clear(4));
        same("left as it was", x.object(0, 0), 1);
    }

    // ---- promise 7

    private static void linkLayout() {
        topic = "promise 7";
        LinkMill x = new LinkMill();
        for (int o = 3; o >= 0; o--) {
            for (int i = 0; i <= o; i++) {
                x.put(o, SHOW, o, 0, 0);
                x.word(o, 100 * o + i);
            }
            x.define(o, o, 0, 0, true);
            x.define(o, 4 + o, 1, 0, true);
        }
        same("link", x.link(4, 2), 36 + 40 + 40);
        int[] starts = {4, 8, 16, 28, 64, 68, 76, 88};
        for (int name = 0; name < 8; name++) {
            same("value " + name, x.value(name), starts[name]);
        }
        int[] header = {MAGIC, 16, 4, 40, 36, 64, 40, 76, MAGIC + 16 + 4 + 40 + 36 + 64 + 40 + 76};
        for (int k = 0; k < 9; k++) {
            same("header " + k, imageWord(x, 4 * k), header[k]);
        }
        int at = 36;
        for (int o = 0; o < 4; o++) {
            for (int i = 0; i <= o; i++) {
                same("code", imageWord(x, at), 18 | o << 5);
                same("data", imageWord(x, at + 40), 100 * o + i);
                at += 4;
            }
        }
        same("code's end on a multiple of 64", x.link(24, 0), 116);
        same("data right behind", x.value(4), 64);
        same("code's end behind a multiple of 64", x.link(28, 0), 116);
        same("data at the next", x.value(4), 128);
        same("greatest base", x.link(1000000000, 0), 116);
        same("data", x.value(4), 1000000064);
    }

    private static void linkFixes() {
        topic = "promise 7";
        same("WHOLE", fixed(-1, 0, 5), 4101);
        same("WHOLE below 0", fixedAt(0, 0, 0, -20000), 64 - 20000);
        same("UPPER", fixed(-1, 1, 0), 0x1fff);
        same("UPPER just below the half", fixed(0, 1, 2047), 0x1000);
        same("UPPER at the half", fixed(0, 1, 2048), 0x2000);
        same("UPPER at -2049", fixedAt(0, -1, 1, -64 - 2049), -1);
        same("UPPER at -2049", fixedAt(0, 0, 1, -64 - 2049), -4096);
        same("UPPER at -2048", fixedAt(0, -1, 1, -64 - 2048), 0xfff);
        same("LOWER", fixed(-1, 2, 5), 5 << 20 | 0xfffff);
        same("LOWER of 4095", fixed(0, 2, -1), 0xfff00000);
        same("LOWER of 4096", fixed(-1, 2, 0), 0xfffff);
        same("NEAR", fixed(-1, 3, 6), 3 << 20 | 0xfffff);
        same("NEAR back", fixed(0, 3, -2), 0xfff00000);
        same("NEAR at another address", fixedAt(0, -1, 3, 6), 3 << 20 | 0xfffff);
        same("FAR", fixed(-1, 4, 6), 3 << 10 | 0x3ff);
        same("FAR back", fixed(0, 4, -2), 0xfffffc00);

        LinkMill x = new LinkMill();
        x.define(0, 0, 0, 0, true);
        x.put(0, HALT, 0, 0, 0);
        x.word(0, -1);
        x.word(0, 0);
        x.define(0, 1, 1, 1, false);
        x.fix(0, 0, 0, 0, 1, 0);
        x.fix(0, 0, 0, 2, 1, 3);
        x.fix(0, 1, 0, 4, 1, 0);
        x.fix(0, 1, 1, 2, 1, 3);
        x.fix(0, 1, 1, 0, 1, 4);
        for (int base = 0; base <= 64; base += 64) {
            same("link", x.link(base, 0), 48);
            same("later fixes on what earlier ones made", imageWord(x, 36), 68 + base | 71 + base << 20);
            same("a fix of data", imageWord(x, 40), 2 << 10 | 0x3ff);
            same("a WHOLE behind another", imageWord(x, 44), 72 + base);
        }
    }

    private static void linkNames() {
        topic = "promise 7";
        LinkMill x = new LinkMill();
        for (int o = 0; o < 3; o++) {
            x.put(o, HALT, 0, 0, 0);
            x.fix(o, 0, 0, 0, 7, 0);
        }
        x.define(0, 7, 0, 1, false);
        x.define(1, 7, 1, 0, true);
        x.define(2, 0, 0, 0, true);
        x.put(0, HALT, 0, 0, 0);
        x.word(0, 0);
        same("link", x.link(0, 0), 36 + 16 + 4);
        same("its own", imageWord(x, 36), 4);
        same("its own, global", imageWord(x, 44), 68);
        same("the global one of another", imageWord(x, 48), 68);
        same("as global", x.value(7), 68);
        x.define(3, 7, 0, 0, false);
        same("one that is not global besides", x.link(0, 0), 56);
        same("is not taken", imageWord(x, 48), 68);
        same("its address", x.link(0, 7), 56);
        same("the entry is the global one", imageWord(x, 4), 68);
    }

    private static void linkRefusals() {
        topic = "promise 7";
        LinkMill x = linked(1);
        x.define(1, 9, 0, 0, true);
        x.define(2, 9, 0, 0, true);
        same("global in two", x.link(0, 0), -1009);
        x.clear(2);
        x.define(2, 9, 0, 0, false);
        same("global in one", x.link(0, 0), 44);
        x.define(2, 9, 0, 0, false);
        same("two in one, not global", x.link(0, 0), -1009);
        x.define(1, 15, 0, 0, false);
        x.define(1, 15, 0, 0, true);
        same("the least", x.link(0, 0), -1009);
        x.clear(2);
        same("one global in the same", x.link(0, 0), -1015);
        x.define(3, 0, 0, 0, true);
        same("name 0", x.link(0, 0), -1000);
        x.clear(1);
        x.clear(3);
        same("link", x.link(128, 0), 44);

        x.put(3, HALT, 0, 0, 0);
        x.fix(3, 0, 0, 0, 0, 0);
        x.fix(3, 0, 0, 0, 8, 0);
        x.fix(3, 0, 0, 0, 9, 0);
        same("fix 1 of object 3", x.link(0, 0), -2301);
        x.define(1, 8, 0, 0, false);
        same("not global in another", x.link(0, 0), -2301);
        x.put(2, HALT, 0, 0, 0);
        x.fix(2, 0, 0, 0, 9, 0);
        same("the first is fix 0 of object 2", x.link(0, 0), -2200);
        x.fix(0, 0, 0, 0, 9, 0);
        same("the first is fix 0 of object 0", x.link(0, 0), -2000);
        x.define(0, 9, 0, 0, false);
        same("it has one of its own", x.link(0, 0), -2200);
        x.clear(1);
        x.clear(2);
        x.define(1, 8, 0, 0, true);
        same("fix 2 of object 3", x.link(0, 0), -2302);
        x.define(3, 9, 0, 0, false);
        same("its own", x.link(0, 0), 48);
        x.fix(3, 0, 0, 4, 9, 2);
        x.fix(3, 0, 0, 3, 9, 3);
        x.fix(3, 0, 0, 4, 9, 1);
        same("out of reach", x.link(0, 0), -3304);
        same("no global entry", x.link(0, 9), -3304);
    }

    private static void linkManyFixes() {
        topic = "promise 7";
        LinkMill x = new LinkMill();
        x.define(3, 0, 0, 0, true);
        x.put(3, HALT, 0, 0, 0);
        for (int k = 0; k < 15; k++) {
            x.fix(3, 0, 0, 0, 0, k);
        }
        x.fix(3, 0, 0, 0, 1, 15);
        same("the last name", x.link(0, 0), -2315);
        x.define(3, 1, 0, 0, false);
        same("link", x.link(4, 0), 40);
        same("the last fix", imageWord(x, 36), 19);
        x.clear(3);
        x.define(3, 0, 0, 0, true);
        x.put(3, HALT, 0, 0, 0);
        for (int k = 0; k < 15; k++) {
            x.fix(3, 0, 0, 3, 0, 2 * k);
        }
        same("no fix from before", x.link(0, 0), 40);
        same("the last fix", imageWord(x, 36), 14 << 20);
        x.fix(3, 0, 0, 3, 0, 1);
        same("the last out of reach", x.link(0, 0), -3315);
        x.clear(3);
        x.define(3, 0, 0, 0, true);
        x.put(3, HALT, 0, 0, 0);
        same("no fix at all", x.link(0, 0), 40);
        same("the word", imageWord(x, 36), 0);
    }

    private static void linkRefusalOrder() {
        topic = "promise 7";
        LinkMill x = linked(1);
        x.put(1, HALT, 0, 0, 0);
        x.define(1, 1, 0, 0, false);
        x.fix(1, 0, 0, 3, 1, 1);
        same("read", x.read(), 0);
        x.link(64, 3);
        for (int fault = 3; fault >= 1; fault--) {
            if (fault == 2) {
                x.fix(1, 0, 0, 0, 2, 0);
            } else if (fault == 1) {
                x.define(1, 1, 0, 0, false);
            }
            int want = fault == 3 ? -3100 : fault == 2 ? -2101 : -1001;
            same("order", x.link(64, 3), want);
            same("the image stays", x.about(0), 44);
            same("the image stays", imageWord(x, 4), 128);
            same("the values stay", x.value(0), 128);
        }
        x.clear(1);
        same("no entry", x.link(64, 3), -4003);
        x.define(1, 3, 0, 0, false);
        same("the entry is not global", x.link(64, 3), -4003);
        same("the values stay", x.value(0), 128);
        x.clear(1);
        x.define(1, 3, 0, 0, true);
        same("link", x.link(64, 3), 44);
        same("new values", x.value(0), 64);
        same("what was read stays", x.memory(192), 9);
    }

    // ---- promise 8

    private static void image() {
        topic = "promise 8";
        LinkMill x = linked(1);
        int[] first = {76, 77, 78, 75, 128, 0, 0, 0};
        for (int i = 0; i < first.length; i++) {
            same("byte " + i, x.image(i), first[i]);
        }
        x.clear(1);
        x.word(1, -2);
        x.link(128, 0);
        same("a byte above 127", x.image(44), 254);
        same("the last", x.image(47), 255);
        same("behind the last", x.image(48), NONE);
        same("-1", x.image(-1), NONE);
        same("greatest", x.image(Integer.MAX_VALUE), NONE);
        same("least", x.image(Integer.MIN_VALUE), NONE);
        x.stretch(-1);
        same("lost", x.image(47), NONE);
    }

    // ---- promise 9

    private static void alter() {
        topic = "promise 9";
        LinkMill x = linked(1);
        same("read", x.read(), 0);
        same("alter", x.alter(43, 255) ? 1 : 0, 1);
        same("byte", x.image(43), 255);
        same("alter", x.alter(0, 0) ? 1 : 0, 1);
        same("byte", x.image(0), 0);
        same("the byte beside", x.image(1), 77);
        same("what was read stays", x.memory(192), 9);
        fails("byte -1", ARGUMENT, () -> x.alter(-1, 0));
        fails("byte 44", ARGUMENT, () -> x.alter(44, 0));
        fails("v -1", ARGUMENT, () -> x.alter(1, -1));
        fails("v 256", ARGUMENT, () -> x.alter(1, 256));
        same("left as it was", x.image(1), 77);
        same("bytes", x.about(0), 44);
    }

    // ---- promise 10

    private static void stretch() {
        topic = "promise 10";
        LinkMill x = new LinkMill();
        same("nothing", x.stretch(0), 0);
        fails("below 0", ARGUMENT, () -> x.stretch(-1));
        same("all", x.stretch(1000), 1000);
        same("last", x.image(999), 0);
        fails("1001", ARGUMENT, () -> x.stretch(1));
        fails("wraps", ARGUMENT, () -> x.stretch(Integer.MAX_VALUE));
        fails("least", ARGUMENT, () -> x.stretch(Integer.MIN_VALUE));
        fails("-1001", ARGUMENT, () -> x.stretch(-1001));
        same("left as it was", x.about(0), 1000);
        x.alter(999, 7);
        x.alter(998, 8);
        same("loses the last", x.stretch(-1), 999);
        same("the others stay", x.image(998), 8);
        same("gets one", x.stretch(1), 1000);
        same("of 0", x.image(999), 0);
        same("loses all", x.stretch(-1000), 0);
        same("no byte", x.image(0), NONE);
        LinkMill y = linked(1);
        same("behind it", y.stretch(2), 46);
        same("before", y.image(40), 9);
        same("behind", y.image(45), 0);
        same("link makes it anew", y.link(128, 0), 44);
    }

    // ---- promise 11

    private static void readHeaderWords() {
        topic = "promise 11";
        int[] answers = {-1, -2, -3, -4, -5, -6, -7, -8, -9};
        for (int k = 0; k < 9; k++) {
            LinkMill x = linked(2);
            same("as linked", x.read(), 0);
            setImageWord(x, 4 * k, imageWord(x, 4 * k) + 1);
            same("word " + k, x.read(), answers[k]);
        }
        // The entry is looked at behind the words of the code, and before those of the data.
        int[] behind = {2, 3, 4};
        for (int k : behind) {
            LinkMill x = linked(2);
            setImageWord(x, 4, 1);
            setImageWord(x, 4 * k, imageWord(x, 4 * k) + 1);
            same("entry and word " + k, x.read(), -1 - k);
        }
        for (int k = 5; k < 9; k++) {
            LinkMill x = linked(2);
            setImageWord(x, 4, 1);
            setImageWord(x, 4 * k, imageWord(x, 4 * k) + 1);
            same("entry and word " + k, x.read(), -2);
        }
        LinkMill x = linked(2);
        for (int k = 8; k >= 2; k--) {
            setImageWord(x, 4 * k, imageWord(x, 4 * k) + 1);
        }
        same("the first", x.read(), -3);
        setImageWord(x, 0, MAGIC - 1);
        same("the first", x.read(), -1);
    }

    private static void readState() {
        topic = "promise 11";
        int[][] code = {in(PLUS, 1, 0, 5), in(SHOW, 1, 0, 0), in(STORE, 1, 0, 64), in(HALT, 0, 0, 0)};
        LinkMill x = program(0, code, 3);
        x.run(500);
        same("stored", x.memory(64), 5);
        x.alter(0, 0);
        same("refused", x.read(), -1);
        same("halted still", x.about(1), 2);
        same("PC still", x.about(2), 12);
        same("instructions still", x.about(3), 4);
        same("shown still", x.shown(0), 5);
        same("memory still", x.memory(64), 5);
        same("register still", x.register(1), 5);
        x.alter(0, 76);
        same("read again", x.read(), 0);
        same("runs", x.about(1), 1);
        same("PC", x.about(2), 0);
        same("instructions", x.about(3), 0);
        same("numbers shown", x.about(4), 0);
        same("shown", x.shown(0), NONE);
        same("memory as read", x.memory(64), 3);
        same("register", x.register(1), 0);
        same("run again", x.run(500), 4);
    }

    // ---- promise 12

    private static int computed(int op, int left, int right) {
        int[][] code = {in(LOAD, 1, 0, 64), in(LOAD, 2, 0, 68), in(op, 3, 1, 2), in(HALT, 0, 0, 0)};
        LinkMill x = program(0, code, left, right);
        x.run(4);
        return x.register(3);
    }

    private static void runArithmetic() {
        topic = "promise 12";
        int least = Integer.MIN_VALUE;
        int greatest = Integer.MAX_VALUE;
        same("SUM wraps", computed(SUM, greatest, 1), least);
        same("LESS wraps", computed(LESS, least, 1), greatest);
        same("LESS", computed(LESS, 3, 5), -2);
        same("AND", computed(AND, 12, 10), 8);
        same("OR", computed(OR, 12, 10), 14);
        same("XOR", computed(XOR, 12, 10), 6);
        same("LEFT", computed(LEFT, 3, 2), 12);
        same("LEFT by 33", computed(LEFT, 3, 33), 6);
        same("LEFT by -1", computed(LEFT, 3, -1), least);
        same("LEFT by 32", computed(LEFT, 3, 32), 3);
        same("RIGHT", computed(RIGHT, -8, 1), -4);
        same("RIGHT by 33", computed(RIGHT, 8, 33), 4);
        same("RIGHT by 31", computed(RIGHT, least, 31), -1);
        same("BELOW", computed(BELOW, -1, 0), 1);
        same("BELOW, the same", computed(BELOW, 4, 4), 0);
        same("BELOW, above", computed(BELOW, greatest, least), 0);
        int[][] code = {in(UPPER, 1, 0, -1), in(PLUS, 1, 1, -1), in(UPPER, 2, 0, 524287), in(PLUS, 2, 2, 2047),
            in(PLUS, 2, 2, 2047), in(PLUS, 2, 2, 1), in(PLUS, 2, 2, 1)};
        LinkMill x = program(0, code);
        same("run", x.run(2), 2);
        same("UPPER and PLUS", x.register(1), -4097);
        same("run", x.run(5), 5);
        same("PLUS wraps", x.register(2), least);
    }

    private static void runRegisterZero() {
        topic = "promise 12";
        int[][] code = {in(UPPER, 0, 0, 1), in(PLUS, 0, 0, 7), in(LOAD, 0, 0, 64), in(CALL, 0, 0, 2),
            in(PLUS, 1, 0, 24), in(BACK, 0, 1, 0), in(SHOW, 0, 0, 0), in(SUM, 0, 1, 1)};
        LinkMill x = program(0, code, 5);
        for (int i = 0; i < code.length; i++) {
            same("run", x.run(1), 1);
            same("register 0", x.register(0), 0);
        }
        same("all have run", x.about(2), 32);
        same("shown", x.shown(0), 0);
        same("PLUS on register 0", x.register(1), 24);
    }

    private static void runMemory() {
        topic = "promise 12";
        int[][] load = {in(LOAD, 1, 2, 0), in(LOAD, 1, 0, 64), in(PLUS, 3, 0, 72), in(LOAD, 1, 3, -4),
            in(STORE, 3, 3, -8), in(LOAD, 1, 0, 72)};
        LinkMill x = program(0, load, 41, 42);
        x.run(1);
        same("LOAD of code", x.register(1), 11 | 1 << 5 | 2 << 10);
        x.run(1);
        same("LOAD of data", x.register(1), 41);
        x.run(2);
        same("LOAD of the last word", x.register(1), 42);
        x.run(1);
        same("STORE", x.memory(64), 72);
        same("LOAD behind the data", x.run(9), 1);
        same("FAILED", x.about(1), 3);
        same("nothing changes", x.register(1), 42);
        same("PC stays", x.about(2), 20);
        int[][] fails = {in(LOAD, 1, 0, 62), in(LOAD, 1, 0, 4), in(LOAD, 0, 0, 8), in(LOAD, 1, 0, -4),
            in(LOAD, 1, 0, 65), in(STORE, 0, 0, 0), in(STORE, 0, 0, 66), in(STORE, 0, 0, 68), in(STORE, 0, 0, 60),
            in(STORE, 0, 0, -64)};
        for (int[] i : fails) {
            LinkMill y = program(0, new int[][] {i}, 7);
            same("counts", y.run(500), 1);
            same("FAILED", y.about(1), 3);
            same("PC stays", y.about(2), 0);
            same("the data stays", y.memory(64), 7);
            same("the code stays", y.memory(0), encoded(i[0], i[1], i[2], i[3]));
            same("instructions", y.about(3), 1);
        }
    }

    /** Where a jump at address 8 of what compares two words goes on. */
    private static int target(int op, int left, int right, int c) {
        int[][] code = {in(LOAD, 1, 0, 64), in(LOAD, 2, 0, 68), in(op, 1, 2, c), in(HALT, 0, 0, 0)};
        LinkMill x = program(0, code, left, right);
        same("run", x.run(3), 3);
        return x.about(2);
    }

    private static void runJumps() {
        topic = "promise 12";
        int least = Integer.MIN_VALUE;
        same("IFSAME", target(IFSAME, 5, 5, -4), 0);
        same("IFSAME not", target(IFSAME, 5, 6, -4), 12);
        same("IFOTHER", target(IFOTHER, 5, 6, 2047), 8 + 4094);
        same("IFOTHER not", target(IFOTHER, 5, 5, 2047), 12);
        same("IFBELOW", target(IFBELOW, least, 0, -2048), 8 - 4096);
        same("IFBELOW not", target(IFBELOW, 0, least, 10), 12);
        same("IFBELOW, the same", target(IFBELOW, 4, 4, 10), 12);

        int[][] code = {in(CALL, 1, 0, 4), in(HALT, 0, 0, 0), in(BACK, 1, 1, -4)};
        LinkMill x = program(4096, code);
        same("CALL", x.run(1), 1);
        same("goes on", x.about(2), 4104);
        same("and keeps the way back", x.register(1), 4100);
        same("BACK", x.run(1), 1);
        same("goes on at the register as it was", x.about(2), 4096);
        same("and keeps the way back", x.register(1), 4108);
        same("CALL, BACK, ..", x.run(500), 500);
        same("still runs", x.about(1), 1);
        same("instructions", x.about(3), 502);

        LinkMill far = program(0, new int[][] {in(CALL, 1, 0, -2097152)});
        same("CALL to nothing", far.run(2), 2);
        same("PC", far.about(2), -4194304);
        same("FAILED", far.about(1), 3);
        LinkMill between = program(0, new int[][] {in(CALL, 1, 0, 1), in(HALT, 0, 0, 0)});
        same("CALL between words", between.run(9), 2);
        same("PC", between.about(2), 2);
        same("FAILED", between.about(1), 3);
        int top = 2147483584;
        LinkMill last = sound(0, 0, 1, top, 16);
        setImageWord(last, 36 + 64, 77);
        same("read", last.read(), 0);
        same("the last word of all", last.memory(Integer.MAX_VALUE - 3), 77);
    }

    private static void runUntoldBits() {
        topic = "promise 12";
        LinkMill x = sound(0, 0, 6, 64, 0);
        int[] words = {PLUS | 1 << 5 | 31 << 15 | 9 << 20, SHOW | 1 << 5 | -1 << 10, SUM | 2 << 5 | 1 << 10 | 1 << 15
            | -1 << 20, SHOW | 2 << 5, HALT | -1 << 5, 0};
        for (int i = 0; i < words.length; i++) {
            setImageWord(x, 36 + 4 * i, words[i]);
        }
        same("read", x.read(), 0);
        same("run", x.run(500), 5);
        same("HALTED", x.about(1), 2);
        same("shown", x.shown(1), 9);
        same("shown", x.shown(0), 18);
        same("PC stays", x.about(2), 16);
        for (int op = 19; op < 32; op++) {
            LinkMill y = sound(0, 0, 1, 64, 0);
            setImageWord(y, 36, op | -1 << 5);
            y.read();
            same("no instruction", y.run(3), 1);
            same("FAILED", y.about(1), 3);
            same("PC stays", y.about(2), 0);
        }
    }

    private static void runEnds() {
        topic = "promise 12";
        LinkMill x = program(64, new int[][] {in(PLUS, 1, 0, 1), in(HALT, 0, 0, 0)}, 7);
        same("up to n", x.run(1), 1);
        same("runs", x.about(1), 1);
        same("HALT counts", x.run(500), 1);
        same("HALTED", x.about(1), 2);
        same("PC stays", x.about(2), 68);
        same("nothing more", x.run(500), 0);
        same("instructions", x.about(3), 2);
        LinkMill y = program(64, new int[][] {in(PLUS, 1, 0, 1)}, 0);
        same("behind the code", y.run(500), 2);
        same("FAILED", y.about(1), 3);
        same("PC", y.about(2), 68);
        same("nothing more", y.run(1), 0);
        same("instructions", y.about(3), 2);
        int[][] intoData = {in(PLUS, 1, 0, 64), in(BACK, 2, 1, 0)};
        LinkMill z = program(0, intoData, 0);
        same("data is not run", z.run(500), 3);
        same("FAILED", z.about(1), 3);
        same("PC", z.about(2), 64);
        same("BACK keeps the way back", z.register(2), 8);
    }

    // ---- promise 13

    private static void value() {
        topic = "promise 13";
        LinkMill x = linked(1);
        x.define(0, 15, 1, 1, true);
        x.define(0, 3, 1, 0, false);
        same("not linked yet", x.value(15), NONE);
        same("link", x.link(0, 0), 44);
        same("global", x.value(15), 68);
        same("not global", x.value(3), NONE);
        same("-1", x.value(-1), NONE);
        same("16", x.value(16), NONE);
        x.define(1, 15, 0, 0, true);
        same("refused", x.link(64, 0), -1015);
        same("as before", x.value(15), 68);
        x.clear(0);
        x.clear(1);
        same("as before", x.value(0), 0);
        x.define(2, 1, 0, 0, true);
        same("link", x.link(64, 1), 36);
        same("gone", x.value(15), NONE);
        same("new", x.value(1), 64);
    }

    // ---- promise 14

    private static void register() {
        topic = "promise 14";
        LinkMill x = program(0, new int[][] {in(PLUS, 31, 0, -7), in(PLUS, 1, 0, 3), in(HALT, 0, 0, 0)});
        x.run(9);
        same("31", x.register(31), -7);
        same("1", x.register(1), 3);
        same("2", x.register(2), 0);
        same("0", x.register(0), 0);
        same("32", x.register(32), 0);
        same("-1", x.register(-1), 0);
        same("63", x.register(63), 0);
        same("least", x.register(Integer.MIN_VALUE), 0);
    }

    // ---- promise 15

    private static void memory() {
        topic = "promise 15";
        LinkMill x = program(124, new int[][] {in(PLUS, 1, 0, 192), in(STORE, 1, 1, 4)}, 5, 6);
        same("code", x.memory(124), encoded(PLUS, 1, 0, 192));
        same("the last of the code", x.memory(128), encoded(STORE, 1, 1, 4));
        same("data", x.memory(192), 5);
        same("the last of the data", x.memory(196), 6);
        x.run(2);
        same("as it is now", x.memory(196), 192);
        int[] none = {120, 132, 188, 200, 125, 126, 193, 195, 0, -4, Integer.MIN_VALUE, Integer.MAX_VALUE};
        for (int address : none) {
            fails("at " + address, INDEX, () -> x.memory(address));
        }
        x.link(0, 0);
        same("of what was read", x.memory(124), encoded(PLUS, 1, 0, 192));
        same("read", x.read(), 0);
        fails("no longer there", INDEX, () -> x.memory(124));
        same("the new code", x.memory(0), encoded(PLUS, 1, 0, 192));
        LinkMill y = linked(1);
        fails("nothing read", INDEX, () -> y.memory(128));
    }

    // ---- promise 16

    private static void shown() {
        topic = "promise 16";
        int[][] code = {in(PLUS, 1, 1, 1), in(SHOW, 1, 0, 0), in(CALL, 0, 0, -4)};
        LinkMill x = program(0, code);
        for (int n = 1; n <= 40; n++) {
            x.run(3);
            same("numbers", x.about(4), n);
            same("the last", x.shown(0), n);
            same("the first kept", x.shown(Math.min(n, 16) - 1), Math.max(1, n - 15));
            same("none behind it", x.shown(Math.min(n, 16)), NONE);
        }
        for (int i = 0; i < 16; i++) {
            same("shown " + i, x.shown(i), 40 - i);
        }
        same("16", x.shown(16), NONE);
        same("-1", x.shown(-1), NONE);
        same("greatest", x.shown(Integer.MAX_VALUE), NONE);
        same("least", x.shown(Integer.MIN_VALUE), NONE);
        x.read();
        same("read anew", x.shown(0), NONE);
    }

    // ---- promise 17

    private static void about() {
        topic = "promise 17";
        LinkMill x = linked(3);
        same("bytes", x.about(0), 52);
        for (int what = 1; what < 5; what++) {
            same("nothing read", x.about(what), 0);
        }
        x.read();
        same("runs", x.about(1), 1);
        same("PC", x.about(2), 128);
        x.run(1);
        same("HALTED", x.about(1), 2);
        same("instructions", x.about(3), 1);
        same("shown", x.about(4), 0);
        x.stretch(-52);
        same("bytes", x.about(0), 0);
        same("what was read stays", x.about(1), 2);
        same("-1", x.about(-1), NONE);
        same("5", x.about(5), NONE);
    }

    // ---- promise 18

    private static void object() {
        topic = "promise 18";
        LinkMill x = new LinkMill();
        for (int o = 0; o < 4; o++) {
            for (int i = 0; i < 4 + o; i++) {
                x.put(o, HALT, 0, 0, 0);
            }
            for (int i = 0; i < 3 + o; i++) {
                x.word(o, 0);
            }
            for (int i = 0; i < 2 + o; i++) {
                x.define(o, i, 0, 0, false);
            }
            for (int i = 0; i < 1 + o; i++) {
                x.fix(o, 0, 0, 0, 0, 0);
            }
        }
        for (int o = 0; o < 4; o++) {
            for (int what = 0; what < 4; what++) {
                same("object", x.object(o, what), o + 4 - what);
            }
        }
        same("object -1", x.object(-1, 0), NONE);
        same("object 4", x.object(4, 0), NONE);
        same("what -1", x.object(0, -1), NONE);
        same("what 4", x.object(0, 4), NONE);
    }
}
