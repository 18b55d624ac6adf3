import java.util.function.Supplier;

/** The edges of objects, and of the calls that fill and empty them. */
final class ObjectEdges extends Edges {
    private static final int[] NO_OBJECT = {-1, 4, LEAST, GREATEST};
    private static final Supplier<LinkMill> BUSY = Checks::busy;

    private ObjectEdges() {
    }

    static void all() {
        words();
        wordsHaveAllBits();
        definitions();
        places();
        fixes();
        placesOfFixes();
        order();
        newObject();
        put();
        putRefused();
        putFull();
        putDropped();
        word();
        wordRefused();
        define();
        defineRefused();
        defineFull();
        fix();
        fixRefused();
        fixFull();
        clear();
        clearRefused();
        object();
    }

    // ---- Terms

    private static final String SECTIONS = "OBJECTS 0 .. 3 each have two SECTIONS, 0 CODE (at most 24 words) and"
            + " 1 DATA (at most 12), words of 32 bits at PLACES 0, 1, ..;";

    private static void words() {
        holds(OBJECTS, SECTIONS);
        LinkMill x = new LinkMill();
        for (int o = 0; o < 4; o++) {
            final int full = o;
            for (int place = 0; place < 24; place++) {
                same("place in the code", x.put(o, PLUS, o, 0, place), place);
            }
            fails("a 25th word of code", STATE, () -> x.put(full, HALT, 0, 0, 0));
            for (int place = 0; place < 12; place++) {
                same("place in the data", x.word(o, 100 * o + place), place);
            }
            fails("a 13th word of data", STATE, () -> x.word(full, 0));
        }
        x.define(0, 0, CODE, 0, true);
        same("all objects full", x.link(0, 0), 36 + 4 * 96 + 4 * 48);
        same("read", x.read(), 0);
        for (int i = 0; i < 96; i++) {
            same("word " + i + " of the code", x.memory(4 * i), wordOf(PLUS, i / 24, 0, i % 24));
        }
        for (int i = 0; i < 48; i++) {
            same("word " + i + " of the data", x.memory(384 + 4 * i), 100 * (i / 12) + i % 12);
        }
    }

    private static void wordsHaveAllBits() {
        holds(OBJECTS, SECTIONS);
        LinkMill x = new LinkMill();
        x.put(3, CALL, 31, 0, -1);
        x.put(3, CALL, 0, 0, -2097152);
        x.define(3, 0, CODE, 0, true);
        int[] words = {LEAST, GREATEST, -1, 0, 1, 1 << 30};
        for (int w : words) {
            x.word(3, w);
        }
        x.link(0, 0);
        same("code", imageWord(x, 36), -1 & ~31 | CALL);
        same("code", imageWord(x, 40), LEAST | CALL);
        for (int i = 0; i < words.length; i++) {
            same("data", imageWord(x, 44 + 4 * i), words[i]);
        }
    }

    private static final String DEFINITIONS = "at most 8 DEFINITIONS: a NAME (0 .. 15), a section, a place in it or"
            + " right behind its last word, GLOBAL or not;";

    private static void definitions() {
        holds(OBJECTS, DEFINITIONS);
        LinkMill x = new LinkMill();
        for (int o = 0; o < 4; o++) {
            final int full = o;
            for (int i = 0; i < 8; i++) {
                // Names 0 .. 15 twice over: global in objects 0 and 1 alone.
                same("definitions", x.define(o, 8 * (o % 2) + i, i % 2, 0, o < 2), i + 1);
            }
            fails("a 9th", STATE, () -> x.define(full, 0, CODE, 0, true));
            same("definitions", x.object(o, 2), 8);
        }
        same("link", x.link(64, 15), 36);
        for (int name = 0; name < 16; name++) {
            same("the global one of name " + name, x.value(name), 64);
        }
        fails("name -1", ARGUMENT, () -> x.define(0, -1, CODE, 0, true));
        fails("name 16", ARGUMENT, () -> x.define(0, 16, CODE, 0, true));
        LinkMill y = new LinkMill();
        y.define(0, 0, CODE, 0, true);
        y.define(0, 1, CODE, 0, false);
        y.link(64, 0);
        same("global", y.value(0), 64);
        same("not global", y.value(1), NONE);
    }

    private static void places() {
        holds(OBJECTS, DEFINITIONS);
        int[] most = {24, 12};
        for (int section = CODE; section <= DATA; section++) {
            for (int count = 0; count <= most[section]; count++) {
                placesOf(section, count);
            }
        }
    }

    private static void placesOf(int section, int count) {
        LinkMill x = new LinkMill();
        fill(x, section, count);
        same("right behind " + count, x.define(1, 0, section, count, true), 1);
        fails("further behind " + count, ARGUMENT, () -> x.define(1, 1, section, count + 1, true));
        fails("place -1 of " + count, ARGUMENT, () -> x.define(1, 1, section, -1, true));
        same("place 0 of " + count, x.define(1, 1, section, 0, true), 2);
        same("link", x.link(0, 0), 36 + 4 * count);
        same("the value right behind", x.value(0), 4 * count);
        same("the value of place 0", x.value(1), 0);
    }

    private static void fill(LinkMill x, int section, int count) {
        for (int i = 0; i < count; i++) {
            int place = section == CODE ? x.put(1, HALT, 0, 0, 0) : x.word(1, 0);
            same("place", place, i);
        }
    }

    private static final String FIXES =
            "and at most 16 FIXES: a section, the place of a word in it, a kind, a name, and an ADD.";

    private static void fixes() {
        holds(OBJECTS, FIXES);
        LinkMill x = new LinkMill();
        for (int o = 0; o < 4; o++) {
            final int full = o;
            x.put(o, HALT, 0, 0, 0);
            x.word(o, 0);
            for (int k = 0; k < 16; k++) {
                same("fixes", x.fix(o, k % 2, 0, k % 5, k, k % 2 == 0 ? -20000 : 20000), k + 1);
            }
            fails("a 17th", STATE, () -> x.fix(full, CODE, 0, 0, 0, 0));
            same("fixes", x.object(o, 3), 16);
        }
    }

    private static void placesOfFixes() {
        holds(OBJECTS, FIXES);
        int[] most = {24, 12};
        for (int section = CODE; section <= DATA; section++) {
            final int s = section;
            final int last = most[section] - 1;
            LinkMill x = new LinkMill();
            fails("a word of none", ARGUMENT, () -> x.fix(1, s, 0, 0, 0, 0));
            fill(x, section, 1);
            same("the only word", x.fix(1, section, 0, 0, 0, 0), 1);
            fails("right behind the only word", ARGUMENT, () -> x.fix(1, s, 1, 0, 0, 0));
            x.clear(1);
            fill(x, section, most[section]);
            x.define(1, 0, section, last + 1, true);
            same("the first word", x.fix(1, section, 0, 0, 0, 0), 1);
            same("the last word", x.fix(1, section, last, 0, 0, 1), 2);
            fails("right behind the last word", ARGUMENT, () -> x.fix(1, s, last + 1, 0, 0, 0));
            fails("place -1", ARGUMENT, () -> x.fix(1, s, -1, 0, 0, 0));
            same("link", x.link(0, 0), 36 + 4 * last + 4);
            same("the first word is fixed", imageWord(x, 36), 4 * last + 4);
            same("the word behind it is not", imageWord(x, 40), 0);
            same("the last word is fixed", imageWord(x, 36 + 4 * last), 4 * last + 5);
        }
    }

    private static void order() {
        holds(OBJECTS, "All are kept in the order in which they came.");
        LinkMill x = full(2);
        same("link", x.link(0, 0), 36 + 96 + 48);
        for (int i = 0; i < 24; i++) {
            // Fix k of full() makes the low bits of name k % 8 and k out of c: those of name's section and place.
            int name = i % 8;
            int value = (name % 2 == CODE ? 0 : 128) + 4 * name;
            same("code " + i, imageWord(x, 36 + 4 * i), wordOf(PLUS, 1, 1, i < 16 ? value + i : i));
        }
        for (int i = 0; i < 12; i++) {
            same("data " + i, imageWord(x, 36 + 96 + 4 * i), 100 + i);
        }
        LinkMill y = new LinkMill();
        y.put(0, HALT, 0, 0, 0);
        for (int k = 0; k < 16; k++) {
            y.fix(0, CODE, 0, 0, k, 0);
        }
        for (int name = 0; name < 15; name++) {
            y.define(name / 8, name, CODE, 0, true);
            same("the next fix in order", y.link(0, 0), -2000 - name - 1);
        }
    }

    // ---- promise 1

    private static void newObject() {
        holds("Promise 1", "Empty objects, no image, nothing read.");
        LinkMill x = new LinkMill();
        for (int o = 0; o < 4; o++) {
            for (int what = 0; what < 4; what++) {
                same("words, definitions, fixes", x.object(o, what), 0);
            }
        }
        same("no byte", x.image(0), NONE);
        for (int what = 0; what < 5; what++) {
            same("about " + what, x.about(what), 0);
        }
        for (int name = 0; name < 16; name++) {
            same("no value", x.value(name), NONE);
        }
        for (int r = 0; r < 32; r++) {
            same("register", x.register(r), 0);
        }
        same("nothing shown", x.shown(0), NONE);
        fails("no byte to alter", ARGUMENT, () -> x.alter(0, 0));
        fails("no byte to lose", ARGUMENT, () -> x.stretch(-1));
        fails("no memory", INDEX, () -> x.memory(0));
        fails("nothing to run", STATE, () -> x.run(1));
        same("nothing to read", x.read(), -1);
        same("no entry to link", x.link(0, 0), -4000);
        idle("a link that is refused", -4015, LinkMill::new, y -> y.link(1000000000, 15));
        idle("a read in vain", -1, LinkMill::new, y -> y.read());
    }

    // ---- promise 2

    private static void put() {
        holds("Promise 2", "Appends an instruction to the code of an object; answers its place.");
        for (int o = 0; o < 4; o++) {
            LinkMill x = new LinkMill();
            same("the first place", x.put(o, HALT, 0, 0, 0), 0);
            for (int place = 1; place < 23; place++) {
                x.put(o, SHOW, 31, 31, 0);
            }
            same("the last place", x.put(o, SHOW, 1, 0, 0), 23);
            for (int other = 0; other < 4; other++) {
                same("code", x.object(other, 0), other == o ? 24 : 0);
                same("data", x.object(other, 1), 0);
            }
        }
    }

    private static void putRefused() {
        holds("Promise 2", "IllegalArgumentException: there is no such object, op is not 0 .. 18, a or b not 0 .. 31,"
                + " or c does not fit (where one is there; a register must be 0 .. 31).");
        for (int o : NO_OBJECT) {
            refused("object " + o, ARGUMENT, BUSY, x -> x.put(o, HALT, 0, 0, 0));
        }
        int[] noOp = {-1, 19, 31, 32, LEAST, GREATEST};
        for (int op : noOp) {
            refused("op " + op, ARGUMENT, BUSY, x -> x.put(0, op, 0, 0, 0));
        }
        for (int op = HALT; op <= SHOW; op++) {
            putRefusedRegisters(op);
            if (op != HALT && op != SHOW) {
                putRefusedNumbers(op);
            }
        }
    }

    private static void putRefusedRegisters(int op) {
        int[] noRegister = {-1, 32, LEAST, GREATEST};
        for (int r : noRegister) {
            refused("a " + r + " of op " + op, ARGUMENT, BUSY, x -> x.put(0, op, r, 0, 0));
            refused("b " + r + " of op " + op, ARGUMENT, BUSY, x -> x.put(0, op, 0, r, 0));
        }
        LinkMill x = new LinkMill();
        same("least a and b of op " + op, x.put(0, op, 0, 0, 0), 0);
        same("greatest a and b of op " + op, x.put(0, op, 31, 31, 0), 1);
    }

    static int leastNumber(int op) {
        return op >= SUM && op <= BELOW ? 0 : op == UPPER ? -524288 : op == CALL ? -2097152 : -2048;
    }

    static int greatestNumber(int op) {
        return op >= SUM && op <= BELOW ? 31 : op == UPPER ? 524287 : op == CALL ? 2097151 : 2047;
    }

    private static void putRefusedNumbers(int op) {
        int least = leastNumber(op);
        int greatest = greatestNumber(op);
        LinkMill y = new LinkMill();
        same("the least c of op " + op, y.put(0, op, 0, 0, least), 0);
        same("the greatest c of op " + op, y.put(0, op, 0, 0, greatest), 1);
        int[] none = {least - 1, greatest + 1, LEAST, GREATEST};
        for (int c : none) {
            refused("c " + c + " of op " + op, ARGUMENT, BUSY, x -> x.put(0, op, 0, 0, c));
        }
    }

    private static void putFull() {
        holds("Promise 2", "IllegalStateException: the code is full.");
        for (int o = 0; o < 4; o++) {
            final int full = o;
            refused("a 25th", STATE, () -> full(full), x -> x.put(full, SHOW, 1, 0, 0));
            refused("a 25th that can't be", ARGUMENT, () -> full(full), x -> x.put(full, 19, 0, 0, 0));
            refused("a 25th that does not fit", ARGUMENT, () -> full(full), x -> x.put(full, PLUS, 0, 0, 2048));
            LinkMill y = full(full);
            same("another object's code", y.put(full ^ 1, HALT, 0, 0, 0), 0);
            y.clear(full);
            same("the code when it was cleared", y.put(full, HALT, 0, 0, 0), 0);
        }
    }

    private static void putDropped() {
        holds("Promise 2", "(a, b and c that are not there are dropped, but a and b are looked at.)");
        int[] numbers = {LEAST, -1, 0, 1, GREATEST};
        for (int c : numbers) {
            same("HALT drops a, b and c", encoded(HALT, 31, 31, c), 0);
            same("SHOW drops b and c", encoded(SHOW, 31, 31, c), wordOf(SHOW, 31, 0, 0));
        }
        same("UPPER drops b", encoded(UPPER, 31, 31, 0), wordOf(UPPER, 31, 0, 0));
        same("CALL drops b", encoded(CALL, 31, 31, 0), wordOf(CALL, 31, 0, 0));
        int[] opsWithout = {HALT, UPPER, CALL, SHOW};
        for (int op : opsWithout) {
            refused("b of op " + op + " is looked at", ARGUMENT, BUSY, x -> x.put(0, op, 0, 32, 0));
        }
        refused("a of HALT is looked at", ARGUMENT, BUSY, x -> x.put(0, HALT, 32, 0, 0));
    }

    // ---- promise 3

    private static void word() {
        holds("Promise 3", "Appends a word to the data of an object; answers its place.");
        for (int o = 0; o < 4; o++) {
            LinkMill x = new LinkMill();
            same("the first place", x.word(o, LEAST), 0);
            for (int place = 1; place < 11; place++) {
                x.word(o, place);
            }
            same("the last place", x.word(o, GREATEST), 11);
            for (int other = 0; other < 4; other++) {
                same("code", x.object(other, 0), 0);
                same("data", x.object(other, 1), other == o ? 12 : 0);
            }
            x.define(0, 0, DATA, 0, true);
            x.link(0, 0);
            same("the first", imageWord(x, 36), LEAST);
            same("the last", imageWord(x, 80), GREATEST);
        }
    }

    private static void wordRefused() {
        holds("Promise 3", "IllegalArgumentException, IllegalStateException likewise.");
        for (int o : NO_OBJECT) {
            refused("object " + o, ARGUMENT, BUSY, x -> x.word(o, 1));
        }
        for (int o = 0; o < 4; o++) {
            final int full = o;
            refused("a 13th", STATE, () -> full(full), x -> x.word(full, 1));
            LinkMill y = full(full);
            fails("no object, with a full one", ARGUMENT, () -> y.word(4, 1));
            same("another object's data", y.word(full ^ 1, 0), 0);
            y.clear(full);
            same("the data when it was cleared", y.word(full, 0), 0);
        }
    }

    // ---- promise 4

    private static void define() {
        holds("Promise 4", "A definition; answers how many the object has.");
        LinkMill x = new LinkMill();
        for (int i = 1; i <= 8; i++) {
            same("how many", x.define(3, 15, DATA, 0, false), i);
        }
        same("the first of another", x.define(0, 15, DATA, 0, false), 1);
        same("the first has 8 still", x.object(3, 2), 8);
    }

    private static void defineRefused() {
        holds("Promise 4", "IllegalArgumentException: there is no such object, name, section or place.");
        for (int o : NO_OBJECT) {
            refused("object " + o, ARGUMENT, BUSY, x -> x.define(o, 9, CODE, 0, true));
        }
        int[] noName = {-1, 16, LEAST, GREATEST};
        for (int name : noName) {
            refused("name " + name, ARGUMENT, BUSY, x -> x.define(0, name, CODE, 0, true));
        }
        int[] noSection = {-1, 2, LEAST, GREATEST};
        for (int section : noSection) {
            refused("section " + section, ARGUMENT, BUSY, x -> x.define(0, 9, section, 0, true));
        }
        // Object 0 of busy() has 4 words of code and none of data, object 1 has 1 and 2.
        int[] noPlace = {-1, 5, LEAST, GREATEST};
        for (int place : noPlace) {
            refused("place " + place, ARGUMENT, BUSY, x -> x.define(0, 9, CODE, place, true));
            refused("place " + place, ARGUMENT, BUSY, x -> x.define(1, 9, DATA, place, false));
        }
        refused("place 1 without data", ARGUMENT, BUSY, x -> x.define(0, 9, DATA, 1, true));
        refused("place 3 of 2 words", ARGUMENT, BUSY, x -> x.define(1, 9, DATA, 3, true));
        LinkMill y = busy();
        same("right behind the last", y.define(0, 8, CODE, 4, true), 2);
        same("right behind none", y.define(0, 9, DATA, 0, true), 3);
        same("right behind the last", y.define(1, 10, DATA, 2, true), 2);
    }

    private static void defineFull() {
        holds("Promise 4", "IllegalStateException: it has 8.");
        refused("a 9th", STATE, () -> full(0), x -> x.define(0, 8, CODE, 0, true));
        refused("a 9th of no name", ARGUMENT, () -> full(0), x -> x.define(0, 16, CODE, 0, true));
        refused("a 9th at no place", ARGUMENT, () -> full(0), x -> x.define(0, 8, CODE, 25, true));
        LinkMill y = full(0);
        same("another object's", y.define(1, 8, CODE, 0, true), 1);
        y.clear(0);
        same("its own when it was cleared", y.define(0, 8, CODE, 0, true), 1);
    }

    // ---- promise 5

    private static void fix() {
        holds("Promise 5", "A fix; answers how many the object has.");
        LinkMill x = new LinkMill();
        x.put(3, HALT, 0, 0, 0);
        x.put(0, HALT, 0, 0, 0);
        for (int i = 1; i <= 16; i++) {
            same("how many", x.fix(3, CODE, 0, 4, 15, 0), i);
        }
        same("the first of another", x.fix(0, CODE, 0, 4, 15, 0), 1);
        same("the first has 16 still", x.object(3, 3), 16);
    }

    private static void fixRefused() {
        holds("Promise 5", "IllegalArgumentException: there is no such object, section, place of a word, kind or"
                + " name, or add is not -20000 .. 20000.");
        for (int o : NO_OBJECT) {
            refused("object " + o, ARGUMENT, BUSY, x -> x.fix(o, CODE, 0, 0, 0, 0));
        }
        int[] noSection = {-1, 2, LEAST, GREATEST};
        for (int section : noSection) {
            refused("section " + section, ARGUMENT, BUSY, x -> x.fix(1, section, 0, 0, 0, 0));
        }
        int[] noPlace = {-1, 4, LEAST, GREATEST};
        for (int place : noPlace) {
            refused("place " + place, ARGUMENT, BUSY, x -> x.fix(0, CODE, place, 0, 0, 0));
        }
        refused("place 0 without data", ARGUMENT, BUSY, x -> x.fix(0, DATA, 0, 0, 0, 0));
        refused("place 2 of 2 words", ARGUMENT, BUSY, x -> x.fix(1, DATA, 2, 0, 0, 0));
        int[] noKind = {-1, 5, LEAST, GREATEST};
        for (int kind : noKind) {
            refused("kind " + kind, ARGUMENT, BUSY, x -> x.fix(0, CODE, 0, kind, 0, 0));
        }
        int[] noName = {-1, 16, LEAST, GREATEST};
        for (int name : noName) {
            refused("name " + name, ARGUMENT, BUSY, x -> x.fix(0, CODE, 0, 0, name, 0));
        }
        int[] noAdd = {-20001, 20001, LEAST, GREATEST};
        for (int add : noAdd) {
            refused("add " + add, ARGUMENT, BUSY, x -> x.fix(0, CODE, 0, 0, 0, add));
        }
        LinkMill y = busy();
        same("the least of each", y.fix(0, CODE, 0, 0, 0, -20000), 3);
        same("the greatest of each", y.fix(1, DATA, 1, 4, 15, 20000), 2);
    }

    private static void fixFull() {
        holds("Promise 5", "IllegalStateException: it has 16.");
        refused("a 17th", STATE, () -> full(0), x -> x.fix(0, CODE, 23, 0, 0, 0));
        refused("a 17th of no kind", ARGUMENT, () -> full(0), x -> x.fix(0, CODE, 23, 5, 0, 0));
        refused("a 17th at no word", ARGUMENT, () -> full(0), x -> x.fix(0, CODE, 24, 0, 0, 0));
        LinkMill y = full(0);
        y.put(1, HALT, 0, 0, 0);
        same("another object's", y.fix(1, CODE, 0, 0, 0, 0), 1);
        y.clear(0);
        y.put(0, HALT, 0, 0, 0);
        same("its own when it was cleared", y.fix(0, CODE, 0, 0, 0, 0), 1);
    }

    // ---- promise 6

    private static void clear() {
        holds("Promise 6", "The object is empty again: true.");
        for (int o = 0; o < 4; o++) {
            final int cleared = o;
            idle("an empty one", true, LinkMill::new, x -> x.clear(cleared));
            LinkMill x = full(o);
            same("a full one", x.clear(o) ? 1 : 0, 1);
            for (int what = 0; what < 4; what++) {
                same("what it has", x.object(o, what), 0);
            }
            same("no definition is left", x.link(0, 0), -4000);
            x.define(o, 0, CODE, 0, true);
            same("no word and no fix is left", x.link(0, 0), 36);
        }
        LinkMill y = busy();
        same("one of several", y.clear(2) ? 1 : 0, 1);
        same("the others stay", y.object(0, 0) + 10 * y.object(1, 1) + 100 * y.object(1, 3), 124);
        same("the image stays", y.about(0), 66);
        same("the values stay", y.value(0), 128);
        same("what was read stays", y.memory(132), 10);
        same("it runs on", y.run(3), 3);
    }

    private static void clearRefused() {
        holds("Promise 6", "IllegalArgumentException: there is none.");
        for (int o : NO_OBJECT) {
            refused("object " + o, ARGUMENT, BUSY, x -> x.clear(o));
        }
    }

    // ---- promise 18

    private static void object() {
        holds("Promise 18", "How many words (what 0 code, 1 data), definitions (2), fixes (3) an object has;"
                + " NONE when there is no such object or what.");
        int[] most = {24, 12, 8, 16};
        for (int o = 0; o < 4; o++) {
            LinkMill x = full(o);
            for (int what = 0; what < 4; what++) {
                same("full", x.object(o, what), most[what]);
                same("empty", x.object(o ^ 1, what), 0);
            }
        }
        for (int o : NO_OBJECT) {
            for (int what = 0; what < 4; what++) {
                final int told = what;
                idle("object " + o, NONE, BUSY, x -> x.object(o, told));
            }
        }
        int[] noWhat = {-1, 4, LEAST, GREATEST};
        for (int what : noWhat) {
            idle("what " + what, NONE, BUSY, x -> x.object(0, what));
            idle("what " + what + " of no object", NONE, BUSY, x -> x.object(4, what));
        }
    }
}
