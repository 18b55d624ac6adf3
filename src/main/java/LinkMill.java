/**
 * Puts instructions and data together into objects, links them to an image of bytes,
 * reads such bytes, and runs what they hold.
 */
public final class LinkMill {
    public static final int NONE = -1;

    private static final int OBJECTS = 4;
    private static final int NAMES = 16;
    private static final int REGISTERS = 32;
    private static final int CODE = 0;
    private static final int DATA = 1;

    private static final int WORD_BYTES = 4;
    private static final int DATA_STEP = 64;
    private static final int HEADER_BYTES = 36;
    private static final int MOST_IMAGE_BYTES = 1000;
    private static final int MOST_ADD = 20000;
    private static final int MOST_BASE = 1000000000;
    private static final int MOST_RUN = 500;
    private static final int MAGIC = 1263422796;

    private final Linker linker;
    private final Image picture;
    private final Machine machine;

    public LinkMill() {
        linker = new Linker();
        picture = new Image();
        machine = new Machine();
    }

    public int put(int o, int op, int a, int b, int c) throws IllegalArgumentException, IllegalStateException {
        if (!isBelow(o, OBJECTS) || !Instruction.canBe(op, a, b, c)) {
            throw new IllegalArgumentException();
        }
        Section code = linker.parts[o].code;
        if (code.isFull()) {
            throw new IllegalStateException();
        }
        return code.append(Instruction.encoded(op, a, b, c));
    }

    public int word(int o, int v) throws IllegalArgumentException, IllegalStateException {
        if (!isBelow(o, OBJECTS)) {
            throw new IllegalArgumentException();
        }
        Section data = linker.parts[o].data;
        if (data.isFull()) {
            throw new IllegalStateException();
        }
        return data.append(v);
    }

    public int define(int o, int name, int section, int place, boolean global)
            throws IllegalArgumentException, IllegalStateException {
        if (!isBelow(o, OBJECTS) || !isBelow(name, NAMES) || !isSection(section)) {
            throw new IllegalArgumentException();
        }
        Part part = linker.parts[o];
        // A name may stand right behind the last word: hence the one more.
        if (!isBelow(place, part.sectionOf(section).count + 1)) {
            throw new IllegalArgumentException();
        }
        if (part.definitions == Part.MOST_DEFINITIONS) {
            throw new IllegalStateException();
        }
        return part.addDefinition(name, section, place, global);
    }

    public int fix(int o, int section, int place, int kind, int name, int add)
            throws IllegalArgumentException, IllegalStateException {
        if (!isBelow(o, OBJECTS) || !isSection(section) || !isBelow(kind, Fix.KINDS)
                || !isBelow(name, NAMES) || add < -MOST_ADD || add > MOST_ADD) {
            throw new IllegalArgumentException();
        }
        Part part = linker.parts[o];
        if (!isBelow(place, part.sectionOf(section).count)) {
            throw new IllegalArgumentException();
        }
        if (part.fixes == Part.MOST_FIXES) {
            throw new IllegalStateException();
        }
        return part.addFix(section, place, kind, name, add);
    }

    public boolean clear(int o) throws IllegalArgumentException {
        if (!isBelow(o, OBJECTS)) {
            throw new IllegalArgumentException();
        }
        linker.parts[o].empty();
        return true;
    }

    public int link(int base, int entry) throws IllegalArgumentException {
        if (base < 0 || base > MOST_BASE || base % WORD_BYTES != 0 || !isBelow(entry, NAMES)) {
            throw new IllegalArgumentException();
        }
        return linker.build(picture, base, entry);
    }

    public int image(int i) {
        return isBelow(i, picture.size) ? picture.bytes[i] : NONE;
    }

    public boolean alter(int i, int v) throws IllegalArgumentException {
        if (!isBelow(i, picture.size) || !isBelow(v, 256)) {
            throw new IllegalArgumentException();
        }
        picture.bytes[i] = v;
        return true;
    }

    public int stretch(int by) throws IllegalArgumentException {
        // A long, so that the size is what it would be, however large the number of bytes is.
        long size = (long) picture.size + by;
        if (size < 0 || size > MOST_IMAGE_BYTES) {
            throw new IllegalArgumentException();
        }
        picture.resize((int) size);
        return picture.size;
    }

    public int read() {
        int fault = Reader.faultOf(picture);
        if (fault == 0) {
            machine.start(picture);
        }
        return fault;
    }

    public int run(int n) throws IllegalArgumentException, IllegalStateException {
        if (n < 1 || n > MOST_RUN) {
            throw new IllegalArgumentException();
        }
        if (machine.status == Machine.UNREAD) {
            throw new IllegalStateException();
        }
        return machine.advance(n);
    }

    public int value(int name) {
        return isBelow(name, NAMES) ? linker.values[name] : NONE;
    }

    public int register(int r) {
        return isBelow(r, REGISTERS) ? machine.registers[r] : 0;
    }

    public int memory(int address) throws IndexOutOfBoundsException {
        int index = machine.indexOf(address);
        if (index == NONE) {
            throw new IndexOutOfBoundsException();
        }
        return machine.words[index];
    }

    public int shown(int i) {
        return machine.lastShown(i);
    }

    public int about(int what) {
        switch (what) {
            case 0:
                return picture.size;
            case 1:
                return machine.status;
            case 2:
                return machine.pc;
            case 3:
                return machine.steps;
            case 4:
                return machine.shows;
            default:
                return NONE;
        }
    }

    public int object(int o, int what) {
        if (!isBelow(o, OBJECTS)) {
            return NONE;
        }
        Part part = linker.parts[o];
        switch (what) {
            case 0:
                return part.code.count;
            case 1:
                return part.data.count;
            case 2:
                return part.definitions;
            case 3:
                return part.fixes;
            default:
                return NONE;
        }
    }

    private static boolean isBelow(int i, int bound) {
        return i >= 0 && i < bound;
    }

    private static boolean isSection(int section) {
        return section == CODE || section == DATA;
    }

    private static boolean fitsSigned(int v, int bits) {
        int half = 1 << (bits - 1);
        return v >= -half && v < half;
    }

    /** The words of one section of an object. */
    private static final class Section {
        private final int[] words;
        private int count;

        Section(int most) {
            words = new int[most];
        }

        boolean isFull() {
            return count == words.length;
        }

        int append(int w) {
            words[count] = w;
            count++;
            return count - 1;
        }
    }

    /** One of the document's objects; its rows are made once and used again after a clearing. */
    private static final class Part {
        private static final int MOST_CODE = 24;
        private static final int MOST_DATA = 12;
        private static final int MOST_DEFINITIONS = 8;
        private static final int MOST_FIXES = 16;

        private final Section code;
        private final Section data;

        private final int[] definedNames;
        private final int[] definedSections;
        private final int[] definedPlaces;
        private final boolean[] definedGlobal;
        private int definitions;

        private final int[] fixSections;
        private final int[] fixPlaces;
        private final int[] fixKinds;
        private final int[] fixNames;
        private final int[] fixAdds;
        private int fixes;

        Part() {
            code = new Section(MOST_CODE);
            data = new Section(MOST_DATA);
            definedNames = new int[MOST_DEFINITIONS];
            definedSections = new int[MOST_DEFINITIONS];
            definedPlaces = new int[MOST_DEFINITIONS];
            definedGlobal = new boolean[MOST_DEFINITIONS];
            fixSections = new int[MOST_FIXES];
            fixPlaces = new int[MOST_FIXES];
            fixKinds = new int[MOST_FIXES];
            fixNames = new int[MOST_FIXES];
            fixAdds = new int[MOST_FIXES];
        }

        Section sectionOf(int section) {
            return section == CODE ? code : data;
        }

        void empty() {
            code.count = 0;
            data.count = 0;
            definitions = 0;
            fixes = 0;
        }

        int addDefinition(int name, int section, int place, boolean global) {
            definedNames[definitions] = name;
            definedSections[definitions] = section;
            definedPlaces[definitions] = place;
            definedGlobal[definitions] = global;
            definitions++;
            return definitions;
        }

        int addFix(int section, int place, int kind, int name, int add) {
            fixSections[fixes] = section;
            fixPlaces[fixes] = place;
            fixKinds[fixes] = kind;
            fixNames[fixes] = name;
            fixAdds[fixes] = add;
            fixes++;
            return fixes;
        }

        int timesDefined(int name) {
            int times = 0;
            for (int d = 0; d < definitions; d++) {
                if (definedNames[d] == name) {
                    times++;
                }
            }
            return times;
        }

        int definitionOf(int name) {
            for (int d = 0; d < definitions; d++) {
                if (definedNames[d] == name) {
                    return d;
                }
            }
            return NONE;
        }

        int globalDefinitionOf(int name) {
            for (int d = 0; d < definitions; d++) {
                if (definedNames[d] == name && definedGlobal[d]) {
                    return d;
                }
            }
            return NONE;
        }
    }

    /** How an instruction stands in its word. */
    private static final class Instruction {
        private static final int HALT = 0;
        private static final int UPPER = 1;
        private static final int PLUS = 2;
        private static final int SUM = 3;
        private static final int LESS = 4;
        private static final int AND = 5;
        private static final int OR = 6;
        private static final int XOR = 7;
        private static final int LEFT = 8;
        private static final int RIGHT = 9;
        private static final int BELOW = 10;
        private static final int LOAD = 11;
        private static final int STORE = 12;
        private static final int IFSAME = 13;
        private static final int IFOTHER = 14;
        private static final int IFBELOW = 15;
        private static final int CALL = 16;
        private static final int BACK = 17;
        private static final int SHOW = 18;
        private static final int KINDS = 19;

        private static final int A_AT = 5;
        private static final int B_AT = 10;
        private static final int REGISTER_C_AT = 15;
        private static final int SHORT_C_AT = 20;
        private static final int UPPER_C_AT = 12;
        private static final int CALL_C_AT = 10;

        private static boolean isThreeRegisters(int op) {
            return op >= SUM && op <= BELOW;
        }

        static boolean canBe(int op, int a, int b, int c) {
            return isBelow(op, KINDS) && isBelow(a, REGISTERS) && isBelow(b, REGISTERS) && canHold(op, c);
        }

        private static boolean canHold(int op, int c) {
            if (op == HALT || op == SHOW) {
                return true;
            }
            if (isThreeRegisters(op)) {
                return isBelow(c, REGISTERS);
            }
            return fitsSigned(c, 32 - numberAt(op));
        }

        /** The lowest bit of the number c, which always reaches up to bit 31. */
        private static int numberAt(int op) {
            if (op == UPPER) {
                return UPPER_C_AT;
            }
            return op == CALL ? CALL_C_AT : SHORT_C_AT;
        }

        static int encoded(int op, int a, int b, int c) {
            if (op == HALT) {
                return op;
            }
            int w = op | a << A_AT;
            if (op == SHOW) {
                return w;
            }
            if (op == UPPER || op == CALL) {
                return w | c << numberAt(op);
            }
            int at = isThreeRegisters(op) ? REGISTER_C_AT : SHORT_C_AT;
            return w | b << B_AT | c << at;
        }

        static int opOf(int w) {
            return w & 31;
        }

        static int aOf(int w) {
            return w >> A_AT & 31;
        }

        static int bOf(int w) {
            return w >> B_AT & 31;
        }

        static int registerCOf(int w) {
            return w >> REGISTER_C_AT & 31;
        }

        static int numberOf(int w) {
            return w >> numberAt(opOf(w));
        }
    }

    /** The kinds of fixes, and what each makes of a word. */
    private static final class Fix {
        private static final int WHOLE = 0;
        private static final int UPPER = 1;
        private static final int LOWER = 2;
        private static final int NEAR = 3;
        private static final int FAR = 4;
        private static final int KINDS = 5;

        static boolean reaches(int kind, int distance) {
            if (kind != NEAR && kind != FAR) {
                return true;
            }
            int at = kind == NEAR ? Instruction.SHORT_C_AT : Instruction.CALL_C_AT;
            return distance % 2 == 0 && fitsSigned(distance / 2, 32 - at);
        }

        static int fixed(int kind, int w, int v, int p) {
            switch (kind) {
                case WHOLE:
                    return v;
                case UPPER:
                    // The half added makes up for the sign of the lower part.
                    return withNumber(w, Instruction.UPPER_C_AT, Math.floorDiv(v + 2048, 4096));
                case LOWER:
                    return withNumber(w, Instruction.SHORT_C_AT, v);
                case NEAR:
                    return withNumber(w, Instruction.SHORT_C_AT, (v - p) / 2);
                default:
                    return withNumber(w, Instruction.CALL_C_AT, (v - p) / 2);
            }
        }

        private static int withNumber(int w, int at, int c) {
            int kept = w & (1 << at) - 1;
            return kept | c << at;
        }
    }

    /** The objects, and the way from them to an image. */
    private static final class Linker {
        private final Part[] parts;
        /** Where each section begins: the codes of all objects, then their data. */
        private final int[] starts;
        /** The global values of the link that is tried; they become those that are told when it is not refused. */
        private final int[] found;
        private final int[] values;
        private int codeStart;
        private int codeEnd;
        private int dataStart;
        private int dataEnd;

        Linker() {
            parts = new Part[OBJECTS];
            for (int o = 0; o < OBJECTS; o++) {
                parts[o] = new Part();
            }
            starts = new int[2 * OBJECTS];
            found = new int[NAMES];
            values = new int[NAMES];
            for (int name = 0; name < NAMES; name++) {
                values[name] = NONE;
            }
        }

        int build(Image to, int base, int entry) {
            layOut(base);
            findGlobals();
            int refusal = refusalOf(entry);
            if (refusal != 0) {
                return refusal;
            }
            for (int name = 0; name < NAMES; name++) {
                values[name] = found[name];
            }
            to.resize(HEADER_BYTES + codeEnd - codeStart + dataEnd - dataStart);
            writeHeader(to, values[entry]);
            for (int o = 0; o < OBJECTS; o++) {
                writeSection(to, o, CODE);
                writeSection(to, o, DATA);
                makeFixes(to, o);
            }
            return to.size;
        }

        private void layOut(int base) {
            codeStart = base;
            codeEnd = layOutSections(CODE, codeStart);
            dataStart = (codeEnd + DATA_STEP - 1) / DATA_STEP * DATA_STEP;
            dataEnd = layOutSections(DATA, dataStart);
        }

        private int layOutSections(int section, int from) {
            int next = from;
            for (int o = 0; o < OBJECTS; o++) {
                starts[section * OBJECTS + o] = next;
                next += WORD_BYTES * parts[o].sectionOf(section).count;
            }
            return next;
        }

        /** Addresses are never negative, so NONE is free for names that are not there. */
        private void findGlobals() {
            for (int name = 0; name < NAMES; name++) {
                found[name] = NONE;
                for (int o = 0; o < OBJECTS; o++) {
                    int d = parts[o].globalDefinitionOf(name);
                    if (d != NONE) {
                        found[name] = definedAddress(o, d);
                    }
                }
            }
        }

        /** The answer that refuses the link, or 0. */
        private int refusalOf(int entry) {
            int name = leastDoubledName();
            if (name != NONE) {
                return -1000 - name;
            }
            int missing = firstNamelessFix();
            if (missing != NONE) {
                return -2000 - missing;
            }
            int far = firstFixOutOfReach();
            if (far != NONE) {
                return -3000 - far;
            }
            return found[entry] == NONE ? -4000 - entry : 0;
        }

        private int leastDoubledName() {
            for (int name = 0; name < NAMES; name++) {
                if (isDoubled(name)) {
                    return name;
                }
            }
            return NONE;
        }

        private boolean isDoubled(int name) {
            int globals = 0;
            for (int o = 0; o < OBJECTS; o++) {
                if (parts[o].timesDefined(name) > 1) {
                    return true;
                }
                if (parts[o].globalDefinitionOf(name) != NONE) {
                    globals++;
                }
            }
            return globals > 1;
        }

        /** 100 o + k of the first fix k of an object o whose name there is not, or NONE. */
        private int firstNamelessFix() {
            for (int o = 0; o < OBJECTS; o++) {
                for (int k = 0; k < parts[o].fixes; k++) {
                    if (addressFor(o, parts[o].fixNames[k]) == NONE) {
                        return 100 * o + k;
                    }
                }
            }
            return NONE;
        }

        private int firstFixOutOfReach() {
            for (int o = 0; o < OBJECTS; o++) {
                for (int k = 0; k < parts[o].fixes; k++) {
                    int distance = fixValue(o, k) - fixAddress(o, k);
                    if (!Fix.reaches(parts[o].fixKinds[k], distance)) {
                        return 100 * o + k;
                    }
                }
            }
            return NONE;
        }

        /** The value of a name as object o sees it, or NONE. */
        private int addressFor(int o, int name) {
            int own = parts[o].definitionOf(name);
            return own == NONE ? found[name] : definedAddress(o, own);
        }

        private int definedAddress(int o, int d) {
            return addressOf(o, parts[o].definedSections[d], parts[o].definedPlaces[d]);
        }

        private int addressOf(int o, int section, int place) {
            return starts[section * OBJECTS + o] + WORD_BYTES * place;
        }

        private int fixAddress(int o, int k) {
            return addressOf(o, parts[o].fixSections[k], parts[o].fixPlaces[k]);
        }

        private int fixValue(int o, int k) {
            return addressFor(o, parts[o].fixNames[k]) + parts[o].fixAdds[k];
        }

        private void writeHeader(Image to, int entry) {
            int codeBytes = codeEnd - codeStart;
            to.setWord(0, MAGIC);
            to.setWord(4, entry);
            to.setWord(8, codeStart);
            to.setWord(12, codeBytes);
            to.setWord(16, HEADER_BYTES);
            to.setWord(20, dataStart);
            to.setWord(24, dataEnd - dataStart);
            to.setWord(28, HEADER_BYTES + codeBytes);
            to.setWord(32, to.headerSum());
        }

        private int byteOf(int section, int address) {
            int codeAt = HEADER_BYTES - codeStart;
            int dataAt = HEADER_BYTES + codeEnd - codeStart - dataStart;
            return address + (section == CODE ? codeAt : dataAt);
        }

        private void writeSection(Image to, int o, int section) {
            Section from = parts[o].sectionOf(section);
            int at = byteOf(section, addressOf(o, section, 0));
            for (int place = 0; place < from.count; place++) {
                to.setWord(at + WORD_BYTES * place, from.words[place]);
            }
        }

        /** Works on the image alone, so that the object can be linked anew elsewhere. */
        private void makeFixes(Image to, int o) {
            for (int k = 0; k < parts[o].fixes; k++) {
                int address = fixAddress(o, k);
                int at = byteOf(parts[o].fixSections[k], address);
                to.setWord(at, Fix.fixed(parts[o].fixKinds[k], to.wordAt(at), fixValue(o, k), address));
            }
        }
    }

    /** Bytes 0 .. 255, the lowest of a word first. */
    private static final class Image {
        private final int[] bytes;
        private int size;

        Image() {
            bytes = new int[MOST_IMAGE_BYTES];
        }

        /** Bytes that went away must not come back: those that are won are 0. */
        void resize(int to) {
            for (int i = size; i < to; i++) {
                bytes[i] = 0;
            }
            size = to;
        }

        int wordAt(int i) {
            return bytes[i] | bytes[i + 1] << 8 | bytes[i + 2] << 16 | bytes[i + 3] << 24;
        }

        void setWord(int i, int w) {
            bytes[i] = w & 255;
            bytes[i + 1] = w >> 8 & 255;
            bytes[i + 2] = w >> 16 & 255;
            bytes[i + 3] = w >> 24 & 255;
        }

        int headerWord(int k) {
            return wordAt(WORD_BYTES * k);
        }

        int headerSum() {
            int sum = 0;
            for (int k = 0; k < 8; k++) {
                sum += headerWord(k);
            }
            return sum;
        }
    }

    /** Looks at an image word by word, each against words that were looked at before. */
    private static final class Reader {
        private static final int ENTRY = 1;
        private static final int CODE_ADDRESS = 2;
        private static final int CODE_BYTES = 3;
        private static final int DATA_ADDRESS = 5;
        private static final int DATA_BYTES = 6;
        private static final int MOST_SECTION_BYTES = 4096;
        private static final int WRONG_SIZE = -10;

        /** The entry can be judged only when the code is known. */
        private static final int[] ORDER = {0, 2, 3, 4, 1, 5, 6, 7, 8};

        static int faultOf(Image from) {
            for (int i = 0; i < ORDER.length; i++) {
                int k = ORDER[i];
                if (WORD_BYTES * (k + 1) > from.size || !isAsItMust(from, k)) {
                    return -1 - k;
                }
            }
            int due = HEADER_BYTES + from.headerWord(CODE_BYTES) + from.headerWord(DATA_BYTES);
            return from.size == due ? 0 : WRONG_SIZE;
        }

        private static boolean isAsItMust(Image from, int k) {
            int w = from.headerWord(k);
            switch (k) {
                case 0:
                    return w == MAGIC;
                case ENTRY:
                    return w % WORD_BYTES == 0 && w >= from.headerWord(CODE_ADDRESS) && w < codeEnd(from);
                case CODE_ADDRESS:
                    return w >= 0 && w % WORD_BYTES == 0;
                case CODE_BYTES:
                    return w >= WORD_BYTES && isLength(from.headerWord(CODE_ADDRESS), w);
                case 4:
                    return w == HEADER_BYTES;
                case DATA_ADDRESS:
                    return w % DATA_STEP == 0 && w >= codeEnd(from);
                case DATA_BYTES:
                    return isLength(from.headerWord(DATA_ADDRESS), w);
                case 7:
                    return w == HEADER_BYTES + from.headerWord(CODE_BYTES);
                default:
                    return w == from.headerSum();
            }
        }

        /** A long, as code that ends with the last address has its end beyond the ints. */
        private static long codeEnd(Image from) {
            return (long) from.headerWord(CODE_ADDRESS) + from.headerWord(CODE_BYTES);
        }

        private static boolean isLength(int address, int length) {
            return length >= 0 && length <= MOST_SECTION_BYTES && length % WORD_BYTES == 0
                    && (long) address + length - 1 <= Integer.MAX_VALUE;
        }
    }

    /** Runs what was read. */
    private static final class Machine {
        private static final int UNREAD = 0;
        private static final int RUNS = 1;
        private static final int HALTED = 2;
        private static final int FAILED = 3;
        private static final int MOST_WORDS = (MOST_IMAGE_BYTES - HEADER_BYTES) / WORD_BYTES;
        private static final int SHOWN_KEPT = 16;

        /** The words of the code, then those of the data. */
        private final int[] words;
        private final int[] registers;
        private final int[] lastNumbers;
        private int codeAddress;
        private int codeWords;
        private int dataAddress;
        private int dataWords;
        private int status;
        private int pc;
        private int steps;
        private int shows;

        Machine() {
            words = new int[MOST_WORDS];
            registers = new int[REGISTERS];
            lastNumbers = new int[SHOWN_KEPT];
        }

        /** The image must be one that the reader found no fault with. */
        void start(Image from) {
            codeAddress = from.headerWord(Reader.CODE_ADDRESS);
            codeWords = from.headerWord(Reader.CODE_BYTES) / WORD_BYTES;
            dataAddress = from.headerWord(Reader.DATA_ADDRESS);
            dataWords = from.headerWord(Reader.DATA_BYTES) / WORD_BYTES;
            for (int i = 0; i < codeWords + dataWords; i++) {
                words[i] = from.wordAt(HEADER_BYTES + WORD_BYTES * i);
            }
            for (int r = 0; r < REGISTERS; r++) {
                registers[r] = 0;
            }
            status = RUNS;
            pc = from.headerWord(Reader.ENTRY);
            steps = 0;
            shows = 0;
        }

        int advance(int most) {
            int before = steps;
            for (int i = 0; i < most && status == RUNS; i++) {
                step();
            }
            return steps - before;
        }

        private void step() {
            // What fails counts too: it is the instruction that ends the run.
            steps++;
            int index = placeOf(pc, codeAddress, codeWords);
            if (index == NONE) {
                status = FAILED;
            } else {
                execute(words[index]);
            }
        }

        private void execute(int w) {
            int op = Instruction.opOf(w);
            int a = Instruction.aOf(w);
            int onB = registers[Instruction.bOf(w)] + Instruction.numberOf(w);
            switch (op) {
                case Instruction.HALT:
                    status = HALTED;
                    break;
                case Instruction.UPPER:
                    goOnWith(a, Instruction.numberOf(w) * 4096);
                    break;
                case Instruction.PLUS:
                    goOnWith(a, onB);
                    break;
                case Instruction.LOAD:
                    load(a, onB);
                    break;
                case Instruction.STORE:
                    store(a, onB);
                    break;
                case Instruction.IFSAME:
                case Instruction.IFOTHER:
                case Instruction.IFBELOW:
                    pc += branches(op, w) ? 2 * Instruction.numberOf(w) : WORD_BYTES;
                    break;
                case Instruction.CALL:
                    leave(a, pc + 2 * Instruction.numberOf(w));
                    break;
                case Instruction.BACK:
                    leave(a, onB);
                    break;
                case Instruction.SHOW:
                    show(registers[a]);
                    break;
                default:
                    executeRegisters(op, w);
                    break;
            }
        }

        private void executeRegisters(int op, int w) {
            if (Instruction.isThreeRegisters(op)) {
                int left = registers[Instruction.bOf(w)];
                int right = registers[Instruction.registerCOf(w)];
                goOnWith(Instruction.aOf(w), joined(op, left, right));
            } else {
                status = FAILED;
            }
        }

        private static int joined(int op, int left, int right) {
            switch (op) {
                case Instruction.SUM:
                    return left + right;
                case Instruction.LESS:
                    return left - right;
                case Instruction.AND:
                    return left & right;
                case Instruction.OR:
                    return left | right;
                case Instruction.XOR:
                    return left ^ right;
                case Instruction.LEFT:
                    return left << (right & 31);
                case Instruction.RIGHT:
                    return left >> (right & 31);
                default:
                    return left < right ? 1 : 0;
            }
        }

        private boolean branches(int op, int w) {
            int left = registers[Instruction.aOf(w)];
            int right = registers[Instruction.bOf(w)];
            if (op == Instruction.IFBELOW) {
                return left < right;
            }
            boolean same = left == right;
            return op == Instruction.IFSAME ? same : !same;
        }

        private void load(int a, int address) {
            int index = indexOf(address);
            if (index == NONE) {
                status = FAILED;
            } else {
                goOnWith(a, words[index]);
            }
        }

        private void store(int a, int address) {
            int index = indexOf(address);
            // The words of the code stand first, and NONE is below them all.
            if (index < codeWords) {
                status = FAILED;
            } else {
                words[index] = registers[a];
                pc += WORD_BYTES;
            }
        }

        private void leave(int a, int to) {
            setRegister(a, pc + WORD_BYTES);
            pc = to;
        }

        private void show(int number) {
            lastNumbers[shows % SHOWN_KEPT] = number;
            shows++;
            pc += WORD_BYTES;
        }

        private void goOnWith(int a, int result) {
            setRegister(a, result);
            pc += WORD_BYTES;
        }

        private void setRegister(int r, int v) {
            if (r != 0) {
                registers[r] = v;
            }
        }

        int lastShown(int i) {
            if (!isBelow(i, Math.min(shows, SHOWN_KEPT))) {
                return NONE;
            }
            return lastNumbers[(shows - 1 - i) % SHOWN_KEPT];
        }

        /** Where the word at an address of code or data is kept, or NONE. */
        int indexOf(int address) {
            int place = placeOf(address, codeAddress, codeWords);
            if (place != NONE) {
                return place;
            }
            place = placeOf(address, dataAddress, dataWords);
            return place == NONE ? NONE : codeWords + place;
        }

        private static int placeOf(int address, int from, int count) {
            // The distance of two ints can be beyond the ints.
            long distance = (long) address - from;
            if (distance < 0 || distance >= (long) WORD_BYTES * count || distance % WORD_BYTES != 0) {
                return NONE;
            }
            return (int) (distance / WORD_BYTES);
        }
    }
}
