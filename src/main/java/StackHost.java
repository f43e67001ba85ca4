import java.util.Arrays;

/**
 * A host for modules of a typed stack machine: bytes are read as modules, modules become instances, and what these
 * export runs as far as it is given fuel.
 */
public final class StackHost {
    public static final int NONE = -1;

    private static final int TAPE_LIMIT = 65536;
    private static final int FED = 20;
    private static final int MODULES = 64;
    private static final int ARGUMENTS = 1000;
    private static final int FUEL_LIMIT = 1000000;
    private static final int PAGE_BYTES = 65536;
    /** Eight bytes a number: a page then costs an eighth of the numbers that a row of bytes would. */
    private static final int PAGE_WORDS = 8192;
    private static final int PAGE_LIMIT = 16;
    private static final int NO_MOST_PAGES = 65536;
    private static final int INSTANCES = 24;
    private static final int FUNCTIONS = 8192;
    private static final int VARIABLES = 4096;
    private static final int ELEMENTS = 16384;
    private static final int VALUES = 16384;
    private static final int CALLS = 200;
    private static final int OUT_LIMIT = 4096;
    private static final int OPEN_LIMIT = 200;
    private static final int LOCAL_LIMIT = 1000;
    /** Functions of the host are numbered behind all that instances can own. */
    private static final int HOST = FUNCTIONS;
    private static final int HOST_ELEMENT = 65536 * 32767;
    private static final long UNSIGNED = 0xFFFFFFFFL;
    private static final int LEAST_SHORT = 0x80000000;
    private static final long LEAST_LONG = 0x8000000000000000L;

    private static final int I = 127;
    private static final int L = 126;
    private static final int F = 125;
    private static final int D = 124;
    private static final int NOTHING = 64;
    private static final int ANY = 0;

    private static final int FUNCTION = 0;
    private static final int TABLE = 1;
    private static final int MEMORY = 2;
    private static final int VARIABLE = 3;

    // Instructions that are named where the code asks for one of them alone.
    private static final int BLOCK = 0x02;
    private static final int LOOP = 0x03;
    private static final int IF = 0x04;
    private static final int ELSE = 0x05;
    private static final int END = 0x0B;
    private static final int VARIABLE_GET = 0x23;
    private static final int FIRST_LOAD = 0x28;
    private static final int FIRST_STORE = 0x36;
    private static final int MEMORY_SIZE = 0x3F;
    private static final int FIRST_CONSTANT = 0x41;
    private static final int LAST_CONSTANT = 0x44;

    private static final byte[] MAGIC = {0, 97, 115, 109, 1, 0, 0, 0};
    private static final byte[] HOST_NAME = {104, 111, 115, 116};
    private static final byte[] HOST_EXPORTS = {105, 108, 102, 100};

    /** Of 0x28 .. 0x3E: the type, and how many bytes of it. */
    private static final int[] MEMORY_TYPES = {I, L, F, D, I, I, I, I, L, L, L, L, L, L, I, L, F, D, I, I, L, L, L};
    private static final int[] MEMORY_BYTES = {4, 8, 4, 8, 1, 1, 2, 2, 1, 1, 2, 2, 4, 4, 4, 8, 4, 8, 1, 2, 1, 2, 4};

    private byte[] tape;
    private int tapeSize;
    private final StackModule[] modules;
    private int moduleCount;
    private final Reader reader;
    private final Checker checker;
    private final World world;
    private final Machine machine;
    private final Row arguments;
    private int faultCode;
    private int faultPlace;

    public StackHost() {
        tape = new byte[FED];
        modules = new StackModule[MODULES];
        reader = new Reader();
        checker = new Checker();
        world = new World();
        machine = new Machine(world);
        arguments = new Row(1);
    }

    public int feed(int a, int b, int c, int d, int e) throws IllegalStateException {
        if (tapeSize > TAPE_LIMIT - FED) {
            throw new IllegalStateException("the tape is full");
        }
        if (tapeSize + FED > tape.length) {
            tape = Arrays.copyOf(tape, Math.min(TAPE_LIMIT, 2 * (tapeSize + FED)));
        }
        feedNumber(a);
        feedNumber(b);
        feedNumber(c);
        feedNumber(d);
        feedNumber(e);
        return tapeSize;
    }

    private void feedNumber(int number) {
        for (int shift = 24; shift >= 0; shift -= 8) {
            tape[tapeSize] = (byte) (number >>> shift);
            tapeSize++;
        }
    }

    public void end(int n) throws IllegalArgumentException {
        if (n < 0 || n > tapeSize) {
            throw new IllegalArgumentException("the tape has not so many bytes");
        }
        tapeSize = n;
    }

    public int load() throws IllegalStateException {
        refuseModuleBeyondLimit();
        StackModule read = new StackModule(Arrays.copyOf(tape, tapeSize));
        tapeSize = 0;
        faultCode = 0;
        faultPlace = 0;
        try {
            reader.readAll(read);
            checker.checkAll(read);
        } catch (IllegalArgumentException refused) {
            faultCode = read.faultCode;
            faultPlace = read.faultPlace;
            return NONE;
        }
        modules[moduleCount] = read;
        moduleCount++;
        return moduleCount - 1;
    }

    private void refuseModuleBeyondLimit() {
        if (moduleCount == MODULES) {
            throw new IllegalStateException("there are as many modules as can be");
        }
    }

    public int fault(int what) throws IndexOutOfBoundsException {
        if (what < 0 || what > 1) {
            throw new IndexOutOfBoundsException("a fault has no such number");
        }
        return what == 0 ? faultCode : faultPlace;
    }

    public int module(int m, int what) throws IndexOutOfBoundsException {
        StackModule asked = moduleNumbered(m);
        switch (what) {
            case 0: return asked.types.lines();
            case 1: return asked.imports.lines();
            case 2: return asked.functions.lines();
            case 3: return asked.tables.lines();
            case 4: return asked.memories.lines();
            case 5: return asked.variables.lines();
            case 6: return asked.exports.lines();
            case 7: return asked.elements.lines();
            case 8: return asked.data.lines();
            default: throw new IndexOutOfBoundsException("a module has nothing of that number");
        }
    }

    private StackModule moduleNumbered(int m) {
        if (m < 0 || m >= moduleCount) {
            throw new IndexOutOfBoundsException("there is no such module");
        }
        return modules[m];
    }

    public int room(int m, int b) throws IndexOutOfBoundsException {
        StackModule asked = moduleNumbered(m);
        if (b < 0 || b >= asked.bodies.lines()) {
            throw new IndexOutOfBoundsException("there is no such body");
        }
        return asked.bodies.at(b, StackModule.ROOM);
    }

    public int instantiate(int m) throws IndexOutOfBoundsException, IllegalStateException {
        StackModule asked = moduleNumbered(m);
        refuseWhileUnderWay();
        int made = world.link(asked);
        faultCode = world.faultCode;
        faultPlace = world.faultPlace;
        if (made != NONE && asked.start != NONE) {
            machine.begin(world.instances[made].functionId(asked.start));
        }
        return made;
    }

    private void refuseWhileUnderWay() {
        if (machine.underWay) {
            throw new IllegalStateException("a function is under way");
        }
    }

    public void name(int i) throws IndexOutOfBoundsException {
        Instance named = instanceNumbered(i);
        world.addName(named.number, tape, tapeSize);
        tapeSize = 0;
    }

    private Instance instanceNumbered(int i) {
        if (i < 0 || i >= world.instanceCount) {
            throw new IndexOutOfBoundsException("there is no such instance");
        }
        return world.instances[i];
    }

    public int find(int i) throws IndexOutOfBoundsException {
        Instance asked = instanceNumbered(i);
        int length = tapeSize;
        tapeSize = 0;
        return asked.module.exportNamed(tape, 0, length);
    }

    public int exported(int i, int k, int what) throws IndexOutOfBoundsException {
        StackModule asked = instanceNumbered(i).module;
        refuseExportBeyond(asked, k);
        int kind = asked.exports.at(k, StackModule.KIND);
        int number = asked.exports.at(k, StackModule.NUMBER);
        switch (what) {
            case 0: return kind;
            case 1: return number;
            case 2: return kind == FUNCTION ? asked.parameters(asked.typeOf(number)) : 0;
            case 3: return kind == FUNCTION && asked.hasResult(asked.typeOf(number)) ? 1 : 0;
            default: throw new IndexOutOfBoundsException("an export has nothing of that number");
        }
    }

    private void refuseExportBeyond(StackModule asked, int k) {
        if (k < 0 || k >= asked.exports.lines()) {
            throw new IndexOutOfBoundsException("there is no such export");
        }
    }

    public int push(long bits) throws IllegalStateException {
        if (arguments.size >= ARGUMENTS) {
            throw new IllegalStateException("there are as many arguments as can be");
        }
        arguments.add(bits);
        return arguments.size;
    }

    public void invoke(int i, int k) throws IndexOutOfBoundsException, IllegalArgumentException, IllegalStateException {
        Instance asked = instanceNumbered(i);
        refuseExportBeyond(asked.module, k);
        if (asked.module.exports.at(k, StackModule.KIND) != FUNCTION) {
            throw new IllegalArgumentException("that export is no function");
        }
        int number = asked.module.exports.at(k, StackModule.NUMBER);
        int type = asked.module.typeOf(number);
        if (asked.module.parameters(type) != arguments.size) {
            throw new IllegalArgumentException("the function has not as many parameters as there are arguments");
        }
        refuseWhileUnderWay();
        machine.begin(asked.functionId(number));
        machine.takeArguments(arguments, asked.module, type);
        arguments.size = 0;
    }

    public int run(int fuel) throws IllegalArgumentException, IllegalStateException {
        if (fuel < 0 || fuel > FUEL_LIMIT) {
            throw new IllegalArgumentException("there is no such fuel");
        }
        if (!machine.underWay) {
            throw new IllegalStateException("nothing is under way");
        }
        return machine.go(fuel);
    }

    public int stop() {
        return machine.giveUp();
    }

    public int calls() {
        return machine.depth;
    }

    public long result() {
        return machine.latestResult;
    }

    public int trap(int what) throws IndexOutOfBoundsException {
        if (what < 0 || what >= machine.latestTrap.length) {
            throw new IndexOutOfBoundsException("a trap has no such number");
        }
        return machine.latestTrap[what];
    }

    public int pages(int i) throws IndexOutOfBoundsException {
        Memory asked = instanceNumbered(i).memory;
        return asked == null ? NONE : asked.pageCount;
    }

    public int peek(int i, int at) throws IndexOutOfBoundsException {
        Memory asked = memoryWith(i, at);
        return asked.byteAt(at);
    }

    private Memory memoryWith(int i, int at) {
        Memory asked = instanceNumbered(i).memory;
        if (asked == null || at < 0 || at >= asked.bytes()) {
            throw new IndexOutOfBoundsException("there is no such byte");
        }
        return asked;
    }

    public void poke(int i, int at, int value) throws IndexOutOfBoundsException {
        Memory asked = memoryWith(i, at);
        asked.setByte(at, value);
    }

    public long variable(int i, int k) throws IndexOutOfBoundsException {
        Instance asked = instanceNumbered(i);
        if (k < 0 || k >= asked.module.variables.lines()) {
            throw new IndexOutOfBoundsException("there is no such variable");
        }
        return world.variables.items[asked.variableId(k)];
    }

    public int element(int i, int k) throws IndexOutOfBoundsException {
        Table asked = instanceNumbered(i).table;
        if (asked == null || k < 0 || k >= asked.size) {
            throw new IndexOutOfBoundsException("there is no such element");
        }
        int id = world.elements.at(asked.from + k, 0);
        if (id == NONE) {
            return NONE;
        }
        if (id >= HOST) {
            return HOST_ELEMENT + (id - HOST);
        }
        Instance owner = world.ownerOf(id);
        return 65536 * owner.number + owner.numberOf(id);
    }

    public int wrong() {
        // Only valid modules are run, and no types are kept with values.
        return 0;
    }

    public int outs() {
        return world.out.size;
    }

    public long out(int k) throws IndexOutOfBoundsException {
        if (k < 0 || k >= world.out.size) {
            throw new IndexOutOfBoundsException("there is no such number in OUT");
        }
        return world.out.items[k];
    }

    public int clear() {
        int had = world.out.size;
        world.out.size = 0;
        return had;
    }

    /** A growing row of numbers, read as lines of so many columns. */
    private static final class Row {
        long[] items;
        int size;
        final int columns;

        Row(int columns) {
            this.columns = columns;
            items = new long[4];
        }

        /** Twice the length at a time, so that all the copies together stay a small multiple of what is kept. */
        void makeRoom(int wanted) {
            if (wanted > items.length) {
                items = Arrays.copyOf(items, Math.max(wanted, 2 * items.length));
            }
        }

        void add(long item) {
            makeRoom(size + 1);
            items[size] = item;
            size++;
        }

        void addMany(int count, long item) {
            makeRoom(size + count);
            Arrays.fill(items, size, size + count, item);
            size += count;
        }

        int lines() {
            return size / columns;
        }

        int at(int line, int column) {
            return (int) items[line * columns + column];
        }

        long longAt(int line, int column) {
            return items[line * columns + column];
        }

        void setAt(int line, int column, long item) {
            items[line * columns + column] = item;
        }
    }

    /**
     * A module as it was read. Its bytes are kept, since a run goes over them; what is written with an instruction is
     * noted at the places of its own bytes, so that a run need not read counts again. Of an instruction at p:
     * notes[p] is the place behind it, notes[p + 1] and notes[p + 2] are the numbers written with it (of a long number
     * its low and high half); 0x0E has how many labels it has, and then its labels. What opens (0x02, 0x03, 0x04) has
     * its height at p and the place of its 0x05 or end at p + 1; 0x05 has the place of its end at p; an end has 1 if
     * it is a body's own. When the check is done, a label is the place of what opened it, or NONE for the body's own.
     */
    private static final class StackModule {
        // Columns. Lines that can be at fault begin with their place.
        static final int PLACE = 0;
        static final int PARAMETERS_AT = 1;
        static final int PARAMETERS = 2;
        static final int RESULTS = 3;
        static final int RESULT = 4;
        static final int KIND = 1;
        static final int NUMBER = 2;
        static final int NAME_AT = 3;
        static final int NAME_LENGTH = 4;
        static final int SECOND_AT = 5;
        static final int SECOND_LENGTH = 6;
        static final int TYPE = 1;
        static final int CHANGING = 2;
        static final int VALUE_AT = 3;
        static final int LEAST = 1;
        static final int MOST = 2;
        static final int INTO = 1;
        static final int OFFSET_AT = 2;
        static final int FROM = 3;
        static final int LENGTH = 4;
        static final int LISTED = 1;
        static final int ENTRY = 0;
        static final int LOCALS = 1;
        static final int GROUPS_FROM = 2;
        static final int GROUPS = 3;
        static final int ROOM = 4;

        final byte[] code;
        final int[] notes;
        final Row types = new Row(5);
        final Row imports = new Row(7);
        final Row functions = new Row(2);
        final Row tables = new Row(3);
        final Row memories = new Row(3);
        final Row variables = new Row(4);
        final Row exports = new Row(5);
        final Row elements = new Row(5);
        final Row listed = new Row(2);
        final Row bodies = new Row(5);
        final Row groups = new Row(2);
        final Row data = new Row(5);
        final int[] imported = new int[4];
        int start = NONE;
        int startAt = NONE;
        int faultCode;
        int faultPlace;

        StackModule(byte[] code) {
            this.code = code;
            notes = new int[code.length];
        }

        void fail(int code, int place) {
            faultCode = code;
            faultPlace = place;
            throw new IllegalArgumentException("the module has a fault");
        }

        int typeOf(int function) {
            return functions.at(function, TYPE);
        }

        int parameters(int type) {
            return types.at(type, PARAMETERS);
        }

        int parameterType(int type, int k) {
            return code[types.at(type, PARAMETERS_AT) + k];
        }

        int resultType(int type) {
            return types.at(type, RESULT);
        }

        boolean hasResult(int type) {
            return types.at(type, RESULT) != NOTHING;
        }

        boolean sameType(int type, StackModule other, int otherType) {
            int count = types.at(type, PARAMETERS);
            if (count != other.types.at(otherType, PARAMETERS)
                    || types.at(type, RESULT) != other.types.at(otherType, RESULT)) {
                return false;
            }
            int from = types.at(type, PARAMETERS_AT);
            return sameBytes(code, from, other.code, other.types.at(otherType, PARAMETERS_AT), count);
        }

        int exportNamed(byte[] bytes, int at, int length) {
            return exportNamedBelow(exports.lines(), bytes, at, length);
        }

        int exportNamedBelow(int limit, byte[] bytes, int at, int length) {
            for (int k = 0; k < limit; k++) {
                if (exports.at(k, NAME_LENGTH) == length
                        && sameBytes(code, exports.at(k, NAME_AT), bytes, at, length)) {
                    return k;
                }
            }
            return NONE;
        }

        static boolean sameBytes(byte[] first, int firstAt, byte[] second, int secondAt, int length) {
            for (int k = 0; k < length; k++) {
                if (first[firstAt + k] != second[secondAt + k]) {
                    return false;
                }
            }
            return true;
        }

        int nextPlace(int place) {
            switch (Reader.shapeOf(code[place] & 255)) {
                case Reader.PLAIN: case Reader.MIDDLE: case Reader.CLOSES: return place + 1;
                case Reader.OPENS: return place + 2;
                default: return notes[place];
            }
        }

        long constantAt(int place) {
            int low = notes[place + 1];
            switch (code[place]) {
                case 0x41: case 0x43: return low & UNSIGNED;
                default: return notes[place] == place + 2 ? low : (long) notes[place + 2] << 32 | low & UNSIGNED;
            }
        }
    }

    /** Reads bytes as a module, up to the first fault of reading. */
    private static final class Reader {
        static final int PLAIN = 0;
        static final int OPENS = 1;
        static final int MIDDLE = 2;
        static final int CLOSES = 3;
        static final int COUNT = 4;
        static final int LABELS = 5;
        static final int COUNT_ZERO = 6;
        static final int TWO_COUNTS = 7;
        static final int ZERO = 8;
        static final int SHORT_NUMBER = 9;
        static final int LONG_NUMBER = 10;
        static final int FOUR_BYTES = 11;
        static final int EIGHT_BYTES = 12;
        static final int NO_INSTRUCTION = 13;

        private StackModule into;
        private byte[] code;
        private int[] notes;
        private int at;
        private int limit;
        private final int[] opened = new int[OPEN_LIMIT];

        static int shapeOf(int instruction) {
            if (instruction >= 0x45) {
                return instruction <= 0xBF ? PLAIN : NO_INSTRUCTION;
            }
            if (instruction >= FIRST_CONSTANT) {
                return SHORT_NUMBER + (instruction - FIRST_CONSTANT);
            }
            if (instruction >= FIRST_LOAD) {
                return instruction >= MEMORY_SIZE ? ZERO : TWO_COUNTS;
            }
            switch (instruction) {
                case 0x00: case 0x01: case 0x0F: case 0x1A: case 0x1B: return PLAIN;
                case BLOCK: case LOOP: case IF: return OPENS;
                case ELSE: return MIDDLE;
                case END: return CLOSES;
                case 0x0C: case 0x0D: case 0x10: return COUNT;
                case 0x20: case 0x21: case 0x22: case VARIABLE_GET: case 0x24: return COUNT;
                case 0x0E: return LABELS;
                case 0x11: return COUNT_ZERO;
                default: return NO_INSTRUCTION;
            }
        }

        void readAll(StackModule module) {
            into = module;
            code = module.code;
            notes = module.notes;
            limit = code.length;
            for (int k = 0; k < MAGIC.length; k++) {
                if (k >= code.length || code[k] != MAGIC[k]) {
                    into.fail(1, k);
                }
            }
            at = MAGIC.length;
            int latest = 0;
            for (int n = 0; n < code.length && at < code.length; n++) {
                int kind = code[at] & 255;
                if (kind > 11) {
                    into.fail(5, at);
                }
                if (kind != 0 && kind <= latest) {
                    into.fail(6, at);
                }
                latest = Math.max(latest, kind);
                at++;
                readSection(kind);
            }
            if (into.bodies.lines() != into.functions.lines() - into.imported[FUNCTION]) {
                into.fail(8, code.length);
            }
        }

        private void readSection(int kind) {
            limitTo(count());
            boolean isRow = kind != 0 && kind != 8;
            long items = isRow ? count() & UNSIGNED : 1;
            for (long k = 0; k < items; k++) {
                switch (kind) {
                    case 0: readName(); at = limit; break;
                    case 1: readType(); break;
                    case 2: readImport(); break;
                    case 3: into.functions.add(at); into.functions.add(count() & UNSIGNED); break;
                    case 4: readTable(); break;
                    case 5: readLimits(into.memories, at); break;
                    case 6: readVariable(); break;
                    case 7: readExport(); break;
                    case 8: into.startAt = at; into.start = count(); break;
                    case 9: readElements(); break;
                    case 10: readBody(); break;
                    default: readData(); break;
                }
            }
            if (at < limit) {
                into.fail(7, at);
            }
            limit = code.length;
        }

        private void limitTo(int size) {
            if (size < 0 || size > limit - at) {
                into.fail(2, limit);
            }
            limit = at + size;
        }

        private int nextByte() {
            if (at >= limit) {
                into.fail(2, limit);
            }
            at++;
            return code[at - 1] & 255;
        }

        /** A byte that cannot be above a bound where it stands. */
        private int byteUpTo(int most) {
            int got = nextByte();
            if (got > most) {
                into.fail(5, at - 1);
            }
            return got;
        }

        private void readMark(int mark) {
            if (at >= limit) {
                into.fail(2, limit);
            }
            if (code[at] != mark) {
                into.fail(5, at);
            }
            at++;
        }

        private int valueType() {
            int got = nextByte();
            if (got < D || got > I) {
                into.fail(5, at - 1);
            }
            return got;
        }

        private int count() {
            int value = 0;
            for (int k = 0; k < 5; k++) {
                if (at >= limit) {
                    into.fail(2, limit);
                }
                int got = code[at] & 255;
                if (k == 4 && got > 15) {
                    into.fail(3, at);
                }
                at++;
                value |= (got & 127) << 7 * k;
                if (got < 128) {
                    break;
                }
            }
            return value;
        }

        /** A number with a sign, of at most five bytes (32 bits) or ten (64 bits). */
        private long signed(int mostBytes) {
            long value = 0;
            int bits = 0;
            for (int k = 0; k < mostBytes; k++) {
                if (at >= limit) {
                    into.fail(2, limit);
                }
                int got = code[at] & 255;
                if (k == mostBytes - 1 && !endsSigned(got, mostBytes)) {
                    into.fail(3, at);
                }
                at++;
                value |= (long) (got & 127) << 7 * k;
                bits = 7 * (k + 1);
                if (got < 128) {
                    break;
                }
            }
            int above = Math.max(0, 64 - bits);
            return value << above >> above;
        }

        private static boolean endsSigned(int last, int mostBytes) {
            if (mostBytes == 5) {
                return last <= 7 || last >= 120 && last <= 127;
            }
            return last == 0 || last == 127;
        }

        private long plainBytes(int howMany) {
            if (howMany > limit - at) {
                into.fail(2, limit);
            }
            long value = 0;
            for (int k = 0; k < howMany; k++) {
                value |= (code[at + k] & 255L) << 8 * k;
            }
            at += howMany;
            return value;
        }

        /** Answers the name's length; it ends where reading goes on. */
        private int readName() {
            int length = count();
            if (length < 0 || length > limit - at) {
                into.fail(2, limit);
            }
            int stop = at + length;
            for (int n = 0; n < length && at < stop; n++) {
                int group = groupLength(at, stop);
                if (group == 0) {
                    into.fail(4, at);
                }
                at += group;
            }
            return length;
        }

        /** How many bytes the group at a place has; 0 if there is none. */
        private int groupLength(int place, int stop) {
            int first = code[place] & 255;
            if (first < 128) {
                return 1;
            }
            int length = first < 224 ? 2 : first < 240 ? 3 : 4;
            if (first < 194 || first > 244 || length > stop - place) {
                return 0;
            }
            int second = code[place + 1] & 255;
            int lowest = first == 224 ? 160 : first == 240 ? 144 : 128;
            int highest = first == 237 ? 159 : first == 244 ? 143 : 191;
            if (second < lowest || second > highest) {
                return 0;
            }
            for (int k = 2; k < length; k++) {
                int more = code[place + k] & 255;
                if (more < 128 || more > 191) {
                    return 0;
                }
            }
            return length;
        }

        private void readType() {
            int place = at;
            readMark(96);
            int parameters = readTypes();
            int parametersAt = at - parameters;
            int results = readTypes();
            into.types.add(place);
            into.types.add(parametersAt);
            into.types.add(parameters);
            into.types.add(results);
            into.types.add(results == 0 ? NOTHING : code[at - results]);
        }

        /** Answers how many there were; each is a byte. */
        private int readTypes() {
            long types = count() & UNSIGNED;
            int from = at;
            for (long k = 0; k < types; k++) {
                valueType();
            }
            return at - from;
        }

        private void readImport() {
            int place = at;
            int firstLength = readName();
            int firstAt = at - firstLength;
            int secondLength = readName();
            int secondAt = at - secondLength;
            int kind = byteUpTo(VARIABLE);
            into.imports.add(place);
            into.imports.add(kind);
            into.imports.add(into.imported[kind]);
            into.imports.add(firstAt);
            into.imports.add(firstLength);
            into.imports.add(secondAt);
            into.imports.add(secondLength);
            into.imported[kind]++;
            if (kind == FUNCTION) {
                into.functions.add(place);
                into.functions.add(count() & UNSIGNED);
            } else if (kind == TABLE) {
                readMark(112);
                readLimits(into.tables, place);
            } else if (kind == MEMORY) {
                readLimits(into.memories, place);
            } else {
                readVariableType(place);
                into.variables.add(NONE);
            }
        }

        private void readTable() {
            int place = at;
            readMark(112);
            readLimits(into.tables, place);
        }

        private void readLimits(Row row, int place) {
            int hasMost = byteUpTo(1);
            row.add(place);
            row.add(count() & UNSIGNED);
            row.add(hasMost == 1 ? count() & UNSIGNED : NONE);
        }

        private void readVariableType(int place) {
            into.variables.add(place);
            into.variables.add(valueType());
            into.variables.add(byteUpTo(1));
        }

        private void readVariable() {
            readVariableType(at);
            into.variables.add(at);
            readExpression();
        }

        private void readExport() {
            int place = at;
            int length = readName();
            int nameAt = at - length;
            into.exports.add(place);
            into.exports.add(byteUpTo(VARIABLE));
            into.exports.add(count() & UNSIGNED);
            into.exports.add(nameAt);
            into.exports.add(length);
        }

        private void readElements() {
            into.elements.add(at);
            into.elements.add(count() & UNSIGNED);
            into.elements.add(at);
            readExpression();
            long functions = count() & UNSIGNED;
            into.elements.add(into.listed.lines());
            into.elements.add(functions);
            for (long k = 0; k < functions; k++) {
                into.listed.add(at);
                into.listed.add(count() & UNSIGNED);
            }
        }

        private void readData() {
            into.data.add(at);
            into.data.add(count() & UNSIGNED);
            into.data.add(at);
            readExpression();
            int bytes = count();
            if (bytes < 0 || bytes > limit - at) {
                into.fail(2, limit);
            }
            into.data.add(at);
            into.data.add(bytes);
            at += bytes;
        }

        private void readBody() {
            int sectionLimit = limit;
            limitTo(count());
            int groupsFrom = into.groups.lines();
            int locals = readLocals();
            into.bodies.add(at);
            into.bodies.add(locals);
            into.bodies.add(groupsFrom);
            into.bodies.add(into.groups.lines() - groupsFrom);
            into.bodies.add(0);
            readExpression();
            if (at < limit) {
                into.fail(7, at);
            }
            limit = sectionLimit;
        }

        private int readLocals() {
            long groups = count() & UNSIGNED;
            long locals = 0;
            for (long k = 0; k < groups; k++) {
                int place = at;
                long more = count() & UNSIGNED;
                locals += more;
                if (locals > LOCAL_LIMIT) {
                    into.fail(9, place);
                }
                into.groups.add(more);
                into.groups.add(valueType());
            }
            return (int) locals;
        }

        private void readExpression() {
            int open = 0;
            boolean ended = false;
            for (int n = 0; n < code.length && !ended; n++) {
                int place = at;
                int shape = shapeOf(nextByte());
                switch (shape) {
                    case OPENS:
                        if (open == OPEN_LIMIT) {
                            into.fail(10, place);
                        }
                        readBlockType();
                        opened[open] = place;
                        open++;
                        break;
                    case MIDDLE:
                        if (open == 0 || code[opened[open - 1]] != IF) {
                            into.fail(5, place);
                        }
                        notes[opened[open - 1] + 1] = place;
                        opened[open - 1] = place;
                        break;
                    case CLOSES:
                        ended = open == 0;
                        open = Math.max(0, open - 1);
                        noteEnd(ended, place, opened[open]);
                        break;
                    case LABELS:
                        readLabels(place);
                        break;
                    case PLAIN:
                        break;
                    default:
                        readOperands(shape, place);
                        break;
                }
            }
        }

        private void readBlockType() {
            int got = nextByte();
            if (got != NOTHING && (got < D || got > I)) {
                into.fail(5, at - 1);
            }
        }

        private void noteEnd(boolean ofBody, int place, int opener) {
            if (ofBody) {
                notes[place] = 1;
            } else if (code[opener] == ELSE) {
                notes[opener] = place;
            } else {
                notes[opener + 1] = place;
            }
        }

        private void readOperands(int shape, int place) {
            switch (shape) {
                case COUNT:
                    notes[place + 1] = count();
                    break;
                case COUNT_ZERO:
                    notes[place + 1] = count();
                    readMark(0);
                    break;
                case TWO_COUNTS:
                    notes[place + 1] = count();
                    notes[place + 2] = count();
                    break;
                case ZERO:
                    readMark(0);
                    break;
                case SHORT_NUMBER:
                    notes[place + 1] = (int) signed(5);
                    break;
                case LONG_NUMBER:
                    noteLong(place, signed(10));
                    break;
                case FOUR_BYTES:
                    notes[place + 1] = (int) plainBytes(4);
                    break;
                case EIGHT_BYTES:
                    noteLong(place, plainBytes(8));
                    break;
                default:
                    into.fail(5, place);
                    break;
            }
            notes[place] = at;
        }

        private void noteLong(int place, long number) {
            notes[place + 1] = (int) number;
            // One byte leaves no place for the high half, and needs none: it is the sign.
            if (at > place + 2) {
                notes[place + 2] = (int) (number >>> 32);
            }
        }

        private void readLabels(int place) {
            int labels = count();
            notes[place + 1] = labels;
            // The labels and the last one; each takes a byte at least, so the notes cannot outrun the bytes.
            for (long k = 0; k <= (labels & UNSIGNED); k++) {
                int label = count();
                notes[place + 2 + (int) k] = label;
            }
            notes[place] = at;
        }
    }

    /** Looks whether a module that was read is valid, notes where its labels lead, and reckons the room of bodies. */
    private static final class Checker {
        /** Of 0x45 .. 0xBF, in groups: the last one, how many it takes, of what type, and the type that it puts. */
        private static final int[] SIGNATURES = {
            0x45, 1, I, I, 0x4F, 2, I, I, 0x50, 1, L, I, 0x5A, 2, L, I, 0x60, 2, F, I, 0x66, 2, D, I,
            0x69, 1, I, I, 0x78, 2, I, I, 0x7B, 1, L, L, 0x8A, 2, L, L,
            0x91, 1, F, F, 0x98, 2, F, F, 0x9F, 1, D, D, 0xA6, 2, D, D,
            0xA7, 1, L, I, 0xA9, 1, F, I, 0xAB, 1, D, I, 0xAD, 1, I, L, 0xAF, 1, F, L, 0xB1, 1, D, L,
            0xB3, 1, I, F, 0xB5, 1, L, F, 0xB6, 1, D, F, 0xB8, 1, I, D, 0xBA, 1, L, D, 0xBB, 1, F, D,
            0xBC, 1, F, I, 0xBD, 1, D, L, 0xBE, 1, I, F, 0xBF, 1, L, D};

        private StackModule module;
        private byte[] code;
        private int[] notes;
        private byte[] operands = new byte[1];
        private int operandCount;
        private int greatest;
        private final byte[] locals = new byte[LOCAL_LIMIT];
        private int localCount;
        private int type;
        private int place;
        // What is open; the body itself is the first of them.
        private final int[] openKind = new int[OPEN_LIMIT + 1];
        private final int[] openAt = new int[OPEN_LIMIT + 1];
        private final int[] labelType = new int[OPEN_LIMIT + 1];
        private final int[] endType = new int[OPEN_LIMIT + 1];
        private final int[] height = new int[OPEN_LIMIT + 1];
        private final boolean[] dead = new boolean[OPEN_LIMIT + 1];
        private int open;

        void checkAll(StackModule read) {
            module = read;
            code = read.code;
            notes = read.notes;
            // No instruction puts more than one type, so there are never more of them than bytes.
            if (operands.length <= code.length) {
                operands = new byte[code.length + 1];
            }
            checkTypes();
            checkImports();
            checkOwn();
            checkExports();
            checkStart();
            checkElements();
            checkData();
            for (int b = 0; b < module.bodies.lines(); b++) {
                checkBody(b);
            }
        }

        private static boolean isThere(long number, int count) {
            return number >= 0 && number < count;
        }

        private void checkTypes() {
            for (int k = 0; k < module.types.lines(); k++) {
                if (module.types.at(k, StackModule.RESULTS) > 1) {
                    module.fail(28, module.types.at(k, StackModule.PLACE));
                }
            }
        }

        private void checkImports() {
            for (int k = 0; k < module.imports.lines(); k++) {
                int number = module.imports.at(k, StackModule.NUMBER);
                switch (module.imports.at(k, StackModule.KIND)) {
                    case FUNCTION: checkFunction(number); break;
                    case TABLE: checkLimits(module.tables, number, UNSIGNED); break;
                    case MEMORY: checkLimits(module.memories, number, NO_MOST_PAGES); break;
                    default: break;
                }
            }
        }

        private void checkFunction(int number) {
            if (!isThere(module.functions.longAt(number, StackModule.TYPE), module.types.lines())) {
                module.fail(20, module.functions.at(number, StackModule.PLACE));
            }
        }

        private void checkLimits(Row row, int number, long highest) {
            long least = row.longAt(number, StackModule.LEAST);
            long most = row.longAt(number, StackModule.MOST);
            int at = row.at(number, StackModule.PLACE);
            if (least > highest || most > highest || most != NONE && most < least) {
                module.fail(25, at);
            }
            if (number > 0) {
                module.fail(27, at);
            }
        }

        private void checkOwn() {
            for (int k = module.imported[FUNCTION]; k < module.functions.lines(); k++) {
                checkFunction(k);
            }
            for (int k = module.imported[TABLE]; k < module.tables.lines(); k++) {
                checkLimits(module.tables, k, UNSIGNED);
            }
            for (int k = module.imported[MEMORY]; k < module.memories.lines(); k++) {
                checkLimits(module.memories, k, NO_MOST_PAGES);
            }
            for (int k = module.imported[VARIABLE]; k < module.variables.lines(); k++) {
                int wanted = module.variables.at(k, StackModule.TYPE);
                checkExpression(module.variables.at(k, StackModule.VALUE_AT), wanted);
            }
        }

        private void checkExpression(int at, int wanted) {
            int first = code[at];
            if (first == VARIABLE_GET) {
                int number = notes[at + 1];
                if (!isThere(number, module.imported[VARIABLE])) {
                    module.fail(20, at);
                }
                if (module.variables.at(number, StackModule.CHANGING) == 1) {
                    module.fail(26, at);
                }
                if (module.variables.at(number, StackModule.TYPE) != wanted) {
                    module.fail(21, at);
                }
            } else if (first >= FIRST_CONSTANT && first <= LAST_CONSTANT) {
                if (I - (first - FIRST_CONSTANT) != wanted) {
                    module.fail(21, at);
                }
            } else {
                module.fail(26, at);
            }
            int second = notes[at];
            if (code[second] != END) {
                module.fail(26, second);
            }
        }

        private int countOf(int kind) {
            switch (kind) {
                case FUNCTION: return module.functions.lines();
                case TABLE: return module.tables.lines();
                case MEMORY: return module.memories.lines();
                default: return module.variables.lines();
            }
        }

        private void checkExports() {
            Row exports = module.exports;
            for (int k = 0; k < exports.lines(); k++) {
                int at = exports.at(k, StackModule.PLACE);
                if (!isThere(exports.longAt(k, StackModule.NUMBER), countOf(exports.at(k, StackModule.KIND)))) {
                    module.fail(20, at);
                }
                int nameAt = exports.at(k, StackModule.NAME_AT);
                int length = exports.at(k, StackModule.NAME_LENGTH);
                if (module.exportNamedBelow(k, code, nameAt, length) != NONE) {
                    module.fail(24, at);
                }
            }
        }

        private void checkStart() {
            if (module.startAt == NONE) {
                return;
            }
            if (!isThere(module.start, module.functions.lines())) {
                module.fail(20, module.startAt);
            }
            int started = module.typeOf(module.start);
            if (module.parameters(started) > 0 || module.hasResult(started)) {
                module.fail(21, module.startAt);
            }
        }

        private void checkElements() {
            Row rows = module.elements;
            for (int k = 0; k < rows.lines(); k++) {
                checkOffset(rows, k, module.tables.lines());
                int from = rows.at(k, StackModule.FROM);
                for (int n = 0; n < rows.at(k, StackModule.LENGTH); n++) {
                    if (!isThere(module.listed.longAt(from + n, StackModule.LISTED), module.functions.lines())) {
                        module.fail(20, module.listed.at(from + n, StackModule.PLACE));
                    }
                }
            }
        }

        private void checkData() {
            for (int k = 0; k < module.data.lines(); k++) {
                checkOffset(module.data, k, module.memories.lines());
            }
        }

        private void checkOffset(Row rows, int k, int count) {
            if (!isThere(rows.longAt(k, StackModule.INTO), count)) {
                module.fail(20, rows.at(k, StackModule.PLACE));
            }
            checkExpression(rows.at(k, StackModule.OFFSET_AT), I);
        }

        private void checkBody(int body) {
            type = module.typeOf(module.imported[FUNCTION] + body);
            spreadLocals(body);
            operandCount = 0;
            greatest = 0;
            open = 0;
            place = module.bodies.at(body, StackModule.ENTRY);
            openThing(0, NONE, module.resultType(type), module.resultType(type));
            for (int n = 0; n < code.length && open > 0; n++) {
                checkInstruction(code[place] & 255);
                place = module.nextPlace(place);
            }
            module.bodies.setAt(body, StackModule.ROOM, greatest);
        }

        private void spreadLocals(int body) {
            localCount = 0;
            int from = module.bodies.at(body, StackModule.GROUPS_FROM);
            for (int g = 0; g < module.bodies.at(body, StackModule.GROUPS); g++) {
                int more = module.groups.at(from + g, 0);
                Arrays.fill(locals, localCount, localCount + more, (byte) module.groups.at(from + g, 1));
                localCount += more;
            }
        }

        private void openThing(int kind, int opener, int label, int ending) {
            openKind[open] = kind;
            openAt[open] = opener;
            labelType[open] = label;
            endType[open] = ending;
            height[open] = operandCount;
            dead[open] = false;
            open++;
        }

        /** Answers the type that went, ANY if it is not known. A label, an end or a function may want NOTHING. */
        private int take(int wanted) {
            if (wanted == NOTHING) {
                return NOTHING;
            }
            if (operandCount <= height[open - 1]) {
                if (!dead[open - 1]) {
                    module.fail(21, place);
                }
                return ANY;
            }
            operandCount--;
            int got = operands[operandCount];
            if (got != wanted && got != ANY && wanted != ANY) {
                module.fail(21, place);
            }
            return got;
        }

        private void put(int added) {
            if (added != NOTHING) {
                operands[operandCount] = (byte) added;
                operandCount++;
                greatest = Math.max(greatest, operandCount);
            }
        }

        private void die() {
            operandCount = height[open - 1];
            dead[open - 1] = true;
        }

        private void require(boolean there, int fault) {
            if (!there) {
                module.fail(fault, place);
            }
        }

        private void checkInstruction(int instruction) {
            if (instruction >= 0x45) {
                checkNumeric(instruction);
            } else if (instruction >= FIRST_CONSTANT) {
                put(I - (instruction - FIRST_CONSTANT));
            } else if (instruction >= FIRST_LOAD) {
                checkMemory(instruction);
            } else if (instruction >= 0x20) {
                checkNamed(instruction);
            } else {
                checkControl(instruction);
            }
        }

        private void checkNumeric(int instruction) {
            int group = 0;
            for (int k = 0; k < SIGNATURES.length && instruction > SIGNATURES[k]; k += 4) {
                group = k + 4;
            }
            for (int k = 0; k < SIGNATURES[group + 1]; k++) {
                take(SIGNATURES[group + 2]);
            }
            put(SIGNATURES[group + 3]);
        }

        private void checkMemory(int instruction) {
            require(module.memories.lines() > 0, 20);
            if (instruction >= MEMORY_SIZE) {
                if (instruction > MEMORY_SIZE) {
                    take(I);
                }
                put(I);
                return;
            }
            int k = instruction - FIRST_LOAD;
            int power = notes[place + 1];
            require(power >= 0 && power <= 3 && 1 << power <= MEMORY_BYTES[k], 22);
            if (instruction >= FIRST_STORE) {
                take(MEMORY_TYPES[k]);
                take(I);
            } else {
                take(I);
                put(MEMORY_TYPES[k]);
            }
        }

        /** 0x20 .. 0x24: locals and variables. */
        private void checkNamed(int instruction) {
            int number = notes[place + 1];
            if (instruction < VARIABLE_GET) {
                int parameters = module.parameters(type);
                require(isThere(number, parameters + localCount), 20);
                int local = number < parameters ? module.parameterType(type, number) : locals[number - parameters];
                if (instruction > 0x20) {
                    take(local);
                }
                if (instruction != 0x21) {
                    put(local);
                }
                return;
            }
            require(isThere(number, module.variables.lines()), 20);
            int wanted = module.variables.at(number, StackModule.TYPE);
            if (instruction == VARIABLE_GET) {
                put(wanted);
            } else {
                require(module.variables.at(number, StackModule.CHANGING) == 1, 23);
                take(wanted);
            }
        }

        private void checkControl(int instruction) {
            switch (instruction) {
                case 0x00: die(); break;
                case BLOCK: case LOOP: case IF: checkOpening(instruction); break;
                case ELSE: checkElse(); break;
                case END: checkEnd(); break;
                case 0x0C: take(labelType[checkLabel(place + 1)]); die(); break;
                case 0x0D: checkBranchIf(); break;
                case 0x0E: checkLabels(); break;
                case 0x0F: take(module.resultType(type)); die(); break;
                case 0x10:
                    require(isThere(notes[place + 1], module.functions.lines()), 20);
                    checkCall(module.typeOf(notes[place + 1]));
                    break;
                case 0x11:
                    require(module.tables.lines() > 0, 20);
                    require(isThere(notes[place + 1], module.types.lines()), 20);
                    take(I);
                    checkCall(notes[place + 1]);
                    break;
                case 0x1A: take(ANY); break;
                case 0x1B: checkSelect(); break;
                default: break;
            }
        }

        private void checkOpening(int instruction) {
            if (instruction == IF) {
                take(I);
            }
            int written = code[place + 1];
            notes[place] = operandCount;
            openThing(instruction, place, instruction == LOOP ? NOTHING : written, written);
        }

        private void checkElse() {
            int ending = endType[open - 1];
            take(ending);
            require(operandCount == height[open - 1], 21);
            open--;
            openThing(ELSE, openAt[open], ending, ending);
        }

        private void checkEnd() {
            int ending = endType[open - 1];
            take(ending);
            require(operandCount == height[open - 1], 21);
            require(openKind[open - 1] != IF || ending == NOTHING, 21);
            open--;
            put(ending);
        }

        /** Answers which open thing the label noted at a place means, and notes the place of what opened it. */
        private int checkLabel(int at) {
            if (!isThere(notes[at], open)) {
                module.fail(20, place);
            }
            int thing = open - 1 - notes[at];
            notes[at] = openAt[thing];
            return thing;
        }

        private void checkBranchIf() {
            int label = labelType[checkLabel(place + 1)];
            take(I);
            take(label);
            put(label);
        }

        private void checkLabels() {
            int last = place + 2 + notes[place + 1];
            for (int at = place + 2; at <= last; at++) {
                require(isThere(notes[at], open), 20);
            }
            int label = labelType[open - 1 - notes[last]];
            for (int at = place + 2; at <= last; at++) {
                require(labelType[checkLabel(at)] == label, 21);
            }
            take(I);
            take(label);
            die();
        }

        private void checkCall(int called) {
            for (int k = module.parameters(called) - 1; k >= 0; k--) {
                take(module.parameterType(called, k));
            }
            put(module.resultType(called));
        }

        private void checkSelect() {
            take(I);
            int second = take(ANY);
            int first = take(second);
            put(second == ANY ? first : second);
        }
    }

    /** A memory: its pages lie somewhere among the pages of all memories. */
    private static final class Memory {
        final Row words;
        final long most;
        final int[] slots = new int[PAGE_LIMIT];
        int pageCount;

        Memory(Row words, long most) {
            this.words = words;
            this.most = most;
        }

        int bytes() {
            return pageCount * PAGE_BYTES;
        }

        private int wordOf(int place) {
            return slots[place >>> 16] * PAGE_WORDS + ((place & 65535) >>> 3);
        }

        int byteAt(int place) {
            return (int) (words.items[wordOf(place)] >>> ((place & 7) << 3)) & 255;
        }

        void setByte(int place, int value) {
            int word = wordOf(place);
            int shift = (place & 7) << 3;
            words.items[word] = words.items[word] & ~(255L << shift) | (value & 255L) << shift;
        }

        long fetch(int place, int howMany) {
            long value = 0;
            for (int k = howMany - 1; k >= 0; k--) {
                value = value << 8 | byteAt(place + k);
            }
            return value;
        }

        void store(int place, int howMany, long value) {
            for (int k = 0; k < howMany; k++) {
                setByte(place + k, (int) (value >>> 8 * k));
            }
        }
    }

    /** A table: a part of the elements of all tables. */
    private static final class Table {
        final int from;
        final int size;
        final long most;

        Table(int from, int size, long most) {
            this.from = from;
            this.size = size;
            this.most = most;
        }
    }

    private static final class Instance {
        final int number;
        final StackModule module;
        // Only what is imported is listed; an instance's own functions and variables are numbered in one piece.
        final long[] importedFunctions;
        final long[] importedVariables;
        final int firstFunction;
        final int firstVariable;
        Table table;
        Memory memory;

        Instance(int number, StackModule module, World world) {
            this.number = number;
            this.module = module;
            importedFunctions = Arrays.copyOf(world.foundFunctions.items, world.foundFunctions.size);
            importedVariables = Arrays.copyOf(world.foundVariables.items, world.foundVariables.size);
            firstFunction = world.owners.size;
            firstVariable = world.variables.size;
            table = world.foundTable;
            memory = world.foundMemory;
        }

        int functionId(int k) {
            int others = importedFunctions.length;
            return k < others ? (int) importedFunctions[k] : firstFunction + k - others;
        }

        int variableId(int k) {
            int others = importedVariables.length;
            return k < others ? (int) importedVariables[k] : firstVariable + k - others;
        }

        /** The number that a function of its own has in it. */
        int numberOf(int id) {
            return id - firstFunction + importedFunctions.length;
        }
    }

    /** All instances and what they own, and how modules become instances. */
    private static final class World {
        final Instance[] instances = new Instance[INSTANCES];
        int instanceCount;
        final Row owners = new Row(1);
        final Row variables = new Row(1);
        final Row elements = new Row(1);
        final Row words = new Row(1);
        final Row out = new Row(1);
        int faultCode;
        int faultPlace;
        // Names: where the bytes begin, how many, and the instance.
        private final Row names = new Row(3);
        private byte[] nameBytes = new byte[16];
        private int nameSize;
        // What the imports of the module that is linked are, kept here so that a refused one costs nothing.
        final Row foundFunctions = new Row(1);
        final Row foundVariables = new Row(1);
        Table foundTable;
        Memory foundMemory;

        Instance ownerOf(int function) {
            return instances[owners.at(function, 0)];
        }

        void addName(int instance, byte[] bytes, int length) {
            if (nameSize + length > nameBytes.length) {
                nameBytes = Arrays.copyOf(nameBytes, 2 * (nameSize + length));
            }
            System.arraycopy(bytes, 0, nameBytes, nameSize, length);
            names.add(nameSize);
            names.add(length);
            names.add(instance);
            nameSize += length;
        }

        private int instanceNamed(byte[] bytes, int at, int length) {
            for (int k = names.lines() - 1; k >= 0; k--) {
                if (names.at(k, 1) == length
                        && StackModule.sameBytes(nameBytes, names.at(k, 0), bytes, at, length)) {
                    return names.at(k, 2);
                }
            }
            return NONE;
        }

        /** Answers the number of the new instance, or NONE; then there is a fault. */
        int link(StackModule module) {
            faultCode = 0;
            faultPlace = 0;
            foundFunctions.size = 0;
            foundVariables.size = 0;
            foundTable = null;
            foundMemory = null;
            for (int k = 0; k < module.imports.lines(); k++) {
                int code = lookUp(module, k);
                if (code != 0) {
                    return refuse(code, k);
                }
            }
            if (isTooMuch(module)) {
                return refuse(44, 0);
            }
            int row = rowBeyond(module, module.elements, elementsOf(module));
            if (row != NONE) {
                return refuse(45, row);
            }
            row = rowBeyond(module, module.data, bytesOf(module));
            if (row != NONE) {
                return refuse(46, row);
            }
            return make(module);
        }

        private int refuse(int code, int place) {
            faultCode = code;
            faultPlace = place;
            return NONE;
        }

        /** Finds what an import means; answers its fault, or 0. */
        private int lookUp(StackModule module, int k) {
            Row imports = module.imports;
            int at = imports.at(k, StackModule.NAME_AT);
            int length = imports.at(k, StackModule.NAME_LENGTH);
            if (length == HOST_NAME.length && StackModule.sameBytes(module.code, at, HOST_NAME, 0, length)) {
                return lookUpAtHost(module, k);
            }
            int instance = instanceNamed(module.code, at, length);
            if (instance == NONE) {
                return 41;
            }
            StackModule other = instances[instance].module;
            int secondAt = imports.at(k, StackModule.SECOND_AT);
            int export = other.exportNamed(module.code, secondAt, imports.at(k, StackModule.SECOND_LENGTH));
            if (export == NONE) {
                return 42;
            }
            if (other.exports.at(export, StackModule.KIND) != imports.at(k, StackModule.KIND)) {
                return 43;
            }
            return takeOver(module, k, instances[instance], other.exports.at(export, StackModule.NUMBER)) ? 0 : 43;
        }

        private int lookUpAtHost(StackModule module, int k) {
            int found = NONE;
            for (int h = 0; h < HOST_EXPORTS.length; h++) {
                if (module.imports.at(k, StackModule.SECOND_LENGTH) == 1
                        && module.code[module.imports.at(k, StackModule.SECOND_AT)] == HOST_EXPORTS[h]) {
                    found = h;
                }
            }
            if (found == NONE) {
                return 42;
            }
            if (module.imports.at(k, StackModule.KIND) != FUNCTION) {
                return 43;
            }
            int wanted = module.typeOf(module.imports.at(k, StackModule.NUMBER));
            if (!fits(HOST + found, module, wanted)) {
                return 43;
            }
            foundFunctions.add(HOST + found);
            return 0;
        }

        /** Whether a function has the type that a module has under a number. */
        boolean fits(int function, StackModule module, int type) {
            if (function >= HOST) {
                return module.parameters(type) == 1 && !module.hasResult(type)
                        && module.parameterType(type, 0) == I - (function - HOST);
            }
            Instance owner = ownerOf(function);
            return owner.module.sameType(owner.module.typeOf(owner.numberOf(function)), module, type);
        }

        /** Takes what an instance exports for an import, if it fits. */
        private boolean takeOver(StackModule module, int k, Instance from, int number) {
            int own = module.imports.at(k, StackModule.NUMBER);
            switch (module.imports.at(k, StackModule.KIND)) {
                case FUNCTION:
                    foundFunctions.add(from.functionId(number));
                    return fits(from.functionId(number), module, module.typeOf(own));
                case TABLE:
                    foundTable = from.table;
                    return foundTable != null && isWithin(module.tables, own, foundTable.size, foundTable.most);
                case MEMORY:
                    foundMemory = from.memory;
                    return foundMemory != null
                            && isWithin(module.memories, own, foundMemory.pageCount, foundMemory.most);
                default:
                    foundVariables.add(from.variableId(number));
                    return sameVariable(module, own, from.module, number);
            }
        }

        private static boolean isWithin(Row wanted, int number, int size, long most) {
            long wantedMost = wanted.longAt(number, StackModule.MOST);
            return size >= wanted.longAt(number, StackModule.LEAST)
                    && (wantedMost == NONE || most != NONE && most <= wantedMost);
        }

        private static boolean sameVariable(StackModule first, int number, StackModule second, int otherNumber) {
            return first.variables.at(number, StackModule.TYPE) == second.variables.at(otherNumber, StackModule.TYPE)
                    && first.variables.at(number, StackModule.CHANGING)
                            == second.variables.at(otherNumber, StackModule.CHANGING);
        }

        private int usedPages() {
            return words.size / PAGE_WORDS;
        }

        /** The least of a module's own table or memory; 0 if it has none of its own. */
        private static long ownLeast(StackModule module, Row row, int kind) {
            return row.lines() > module.imported[kind] ? row.longAt(module.imported[kind], StackModule.LEAST) : 0;
        }

        private boolean isTooMuch(StackModule module) {
            return instanceCount >= INSTANCES
                    || owners.size + module.functions.lines() - module.imported[FUNCTION] > FUNCTIONS
                    || variables.size + module.variables.lines() - module.imported[VARIABLE] > VARIABLES
                    || elements.size + ownLeast(module, module.tables, TABLE) > ELEMENTS
                    || usedPages() + ownLeast(module, module.memories, MEMORY) > PAGE_LIMIT;
        }

        private long elementsOf(StackModule module) {
            return foundTable != null ? foundTable.size : ownLeast(module, module.tables, TABLE);
        }

        private long bytesOf(StackModule module) {
            return foundMemory != null ? foundMemory.bytes() : ownLeast(module, module.memories, MEMORY) * PAGE_BYTES;
        }

        /** The first row of elements or data that goes beyond a size; NONE if none does. */
        private int rowBeyond(StackModule module, Row rows, long size) {
            for (int k = 0; k < rows.lines(); k++) {
                if (offsetOf(module, rows, k) + rows.longAt(k, StackModule.LENGTH) > size) {
                    return k;
                }
            }
            return NONE;
        }

        private long offsetOf(StackModule module, Row rows, int k) {
            return valueOf(module, rows.at(k, StackModule.OFFSET_AT));
        }

        private long valueOf(StackModule module, int expression) {
            if (module.code[expression] == VARIABLE_GET) {
                return variables.items[foundVariables.at(module.notes[expression + 1], 0)];
            }
            return module.constantAt(expression);
        }

        private int make(StackModule module) {
            Instance made = new Instance(instanceCount, module, this);
            instances[instanceCount] = made;
            instanceCount++;
            owners.addMany(module.functions.lines() - module.imported[FUNCTION], made.number);
            for (int k = module.imported[VARIABLE]; k < module.variables.lines(); k++) {
                variables.add(valueOf(module, module.variables.at(k, StackModule.VALUE_AT)));
            }
            if (module.tables.lines() > module.imported[TABLE]) {
                int size = (int) ownLeast(module, module.tables, TABLE);
                made.table = new Table(elements.size, size, module.tables.longAt(0, StackModule.MOST));
                elements.addMany(size, NONE);
            }
            if (module.memories.lines() > module.imported[MEMORY]) {
                made.memory = new Memory(words, module.memories.longAt(0, StackModule.MOST));
                grow(made.memory, ownLeast(module, module.memories, MEMORY));
            }
            writeElements(made);
            writeData(made);
            return made.number;
        }

        /** Answers how many pages there were, or NONE if there cannot be so many more. */
        int grow(Memory memory, long more) {
            long most = memory.most == NONE ? NO_MOST_PAGES : memory.most;
            if (memory.pageCount + more > most || usedPages() + more > PAGE_LIMIT) {
                return NONE;
            }
            int had = memory.pageCount;
            // All at once, lest the row be copied again for every page.
            words.makeRoom(words.size + (int) more * PAGE_WORDS);
            for (int k = 0; k < more; k++) {
                memory.slots[had + k] = usedPages();
                words.addMany(PAGE_WORDS, 0);
            }
            memory.pageCount = had + (int) more;
            return had;
        }

        private void writeElements(Instance made) {
            StackModule module = made.module;
            for (int k = 0; k < module.elements.lines(); k++) {
                int into = made.table.from + (int) offsetOf(module, module.elements, k);
                int from = module.elements.at(k, StackModule.FROM);
                for (int n = 0; n < module.elements.at(k, StackModule.LENGTH); n++) {
                    int function = module.listed.at(from + n, StackModule.LISTED);
                    elements.items[into + n] = made.functionId(function);
                }
            }
        }

        private void writeData(Instance made) {
            StackModule module = made.module;
            for (int k = 0; k < module.data.lines(); k++) {
                int into = (int) offsetOf(module, module.data, k);
                int from = module.data.at(k, StackModule.FROM);
                for (int n = 0; n < module.data.at(k, StackModule.LENGTH); n++) {
                    made.memory.setByte(into + n, module.code[from + n]);
                }
            }
        }
    }

    /** Runs what is under way. Values of types I and F are kept without a sign, their high bits 0. */
    private static final class Machine {
        static final int ENDED = 0;
        static final int TRAPPED = 1;
        static final int HELD = 2;
        /** Far above what can stand free of fuel between two steps: 200 calls of 65536 bytes each. */
        private static final int FREE_LIMIT = 20000000;
        // Columns of an open call; values from its base on are its locals, then its operands.
        private static final int FRAME = 5;
        private static final int FRAME_INSTANCE = 0;
        private static final int FRAME_FUNCTION = 1;
        private static final int FRAME_BACK = 2;
        private static final int FRAME_BASE = 3;
        private static final int FRAME_OPERANDS = 4;

        private final World world;
        private final Format singles = new Format(24, 127, 1L << 31);
        private final Format doubles = new Format(53, 1023, 1L << 63);
        boolean underWay;
        int depth;
        long latestResult;
        final int[] latestTrap = {0, NONE, NONE, NONE};
        private boolean trapped;
        private int waiting = NONE;
        private long[] values = new long[64];
        private int top;
        private final int[] frames = new int[FRAME * CALLS];
        // The latest open call.
        private Instance instance;
        private byte[] code;
        private int[] notes;
        private int at;
        private int base;
        private int operands;

        Machine(World world) {
            this.world = world;
        }

        void begin(int function) {
            underWay = true;
            waiting = function;
            depth = 0;
            top = 0;
        }

        void takeArguments(Row given, StackModule module, int type) {
            makeRoom(given.size);
            for (int k = 0; k < given.size; k++) {
                int wanted = module.parameterType(type, k);
                values[k] = wanted == I || wanted == F ? given.items[k] & UNSIGNED : given.items[k];
            }
            top = given.size;
        }

        int giveUp() {
            int had = depth;
            underWay = false;
            depth = 0;
            return had;
        }

        private void makeRoom(int wanted) {
            if (wanted > values.length) {
                values = Arrays.copyOf(values, Math.min(VALUES, Math.max(wanted, 2 * values.length)));
            }
        }

        int go(int fuel) {
            trapped = false;
            if (waiting != NONE) {
                int function = waiting;
                waiting = NONE;
                call(function, 0);
            }
            for (int left = fuel; left >= 0 && underWay; left--) {
                passFree();
                if (underWay && left == 0) {
                    return HELD;
                }
                if (underWay) {
                    step();
                }
            }
            return trapped ? TRAPPED : ENDED;
        }

        /** Does what needs no fuel. */
        private void passFree() {
            for (int n = 0; n < FREE_LIMIT && underWay; n++) {
                switch (code[at]) {
                    case 0x01: at++; break;
                    case BLOCK: case LOOP: at += 2; break;
                    case ELSE: at = notes[at]; break;
                    case END:
                        if (notes[at] == 1) {
                            endCall();
                        } else {
                            at++;
                        }
                        break;
                    default: return;
                }
            }
        }

        private void fall(int trapCode) {
            boolean inCall = depth > 0;
            latestTrap[0] = trapCode;
            latestTrap[1] = inCall ? instance.number : NONE;
            latestTrap[2] = inCall ? frames[(depth - 1) * FRAME + FRAME_FUNCTION] : NONE;
            latestTrap[3] = inCall ? at : NONE;
            trapped = true;
            underWay = false;
            depth = 0;
        }

        private void finish(long value) {
            latestResult = value;
            underWay = false;
            depth = 0;
        }

        /** Calls a function whose parameters are the latest values; its caller goes on at a place. */
        private void call(int function, int back) {
            if (function >= HOST) {
                callHost(back);
                return;
            }
            Instance owner = world.ownerOf(function);
            StackModule module = owner.module;
            int number = owner.numberOf(function);
            int body = number - module.imported[FUNCTION];
            int locals = module.bodies.at(body, StackModule.LOCALS);
            int wanted = top + locals + module.bodies.at(body, StackModule.ROOM);
            if (depth >= CALLS || wanted > VALUES) {
                fall(9);
                return;
            }
            makeRoom(wanted);
            Arrays.fill(values, top, top + locals, 0);
            if (depth > 0) {
                frames[(depth - 1) * FRAME + FRAME_BACK] = back;
            }
            int frame = depth * FRAME;
            frames[frame + FRAME_INSTANCE] = owner.number;
            frames[frame + FRAME_FUNCTION] = number;
            frames[frame + FRAME_BASE] = top - module.parameters(module.typeOf(number));
            frames[frame + FRAME_OPERANDS] = top + locals;
            top += locals;
            depth++;
            enter(frame);
            at = module.bodies.at(body, StackModule.ENTRY);
        }

        private void callHost(int back) {
            if (world.out.size >= OUT_LIMIT) {
                fall(10);
                return;
            }
            top--;
            world.out.add(values[top]);
            at = back;
            if (depth == 0) {
                finish(0);
            }
        }

        private void enter(int frame) {
            instance = world.instances[frames[frame + FRAME_INSTANCE]];
            code = instance.module.code;
            notes = instance.module.notes;
            base = frames[frame + FRAME_BASE];
            operands = frames[frame + FRAME_OPERANDS];
        }

        private void endCall() {
            StackModule module = instance.module;
            int function = frames[(depth - 1) * FRAME + FRAME_FUNCTION];
            boolean hasResult = module.hasResult(module.typeOf(function));
            long value = hasResult ? values[top - 1] : 0;
            top = base;
            depth--;
            if (depth == 0) {
                finish(value);
                return;
            }
            int frame = (depth - 1) * FRAME;
            enter(frame);
            at = frames[frame + FRAME_BACK];
            if (hasResult) {
                putValue(value);
            }
        }

        private void putValue(long value) {
            values[top] = value;
            top++;
        }

        private void step() {
            int instruction = code[at] & 255;
            if (instruction >= 0xA7) {
                convert(instruction);
                at++;
            } else if (instruction >= 0x8B) {
                reckonFloating(instruction);
                at++;
            } else if (instruction >= 0x45) {
                reckonWhole(instruction);
                at++;
            } else if (instruction >= FIRST_CONSTANT) {
                putValue(instance.module.constantAt(at));
                at = notes[at];
            } else if (instruction >= MEMORY_SIZE) {
                sizeMemory(instruction);
            } else if (instruction >= FIRST_LOAD) {
                useMemory(instruction);
            } else if (instruction >= 0x20) {
                useNamed(instruction);
                at = notes[at];
            } else {
                control(instruction);
            }
        }

        private void control(int instruction) {
            switch (instruction) {
                case IF:
                    top--;
                    // Behind 0x05 as well as behind the end it goes on.
                    at = values[top] != 0 ? at + 2 : notes[at + 1] + 1;
                    break;
                case 0x0C: branch(notes[at + 1]); break;
                case 0x0D:
                    top--;
                    if (values[top] != 0) {
                        branch(notes[at + 1]);
                    } else {
                        at = notes[at];
                    }
                    break;
                case 0x0E: branch(chosenLabel()); break;
                case 0x0F: endCall(); break;
                case 0x10: call(instance.functionId(notes[at + 1]), notes[at]); break;
                case 0x11:
                    int function = chosenElement();
                    if (function != NONE) {
                        call(function, notes[at]);
                    }
                    break;
                case 0x1A:
                    top--;
                    at++;
                    break;
                case 0x1B:
                    top -= 2;
                    if (values[top + 1] == 0) {
                        values[top - 1] = values[top];
                    }
                    at++;
                    break;
                default: fall(1); break;
            }
        }

        private void branch(int opener) {
            if (opener == NONE) {
                endCall();
                return;
            }
            int kept = operands + notes[opener];
            if (code[opener] == LOOP) {
                top = kept;
                at = opener + 2;
                return;
            }
            if (code[opener + 1] != NOTHING) {
                values[kept] = values[top - 1];
                kept++;
            }
            top = kept;
            int end = notes[opener + 1];
            at = (code[end] == ELSE ? notes[end] : end) + 1;
        }

        private int chosenLabel() {
            top--;
            int labels = notes[at + 1];
            int chosen = values[top] < labels ? (int) values[top] : labels;
            return notes[at + 2 + chosen];
        }

        /** The function in the element that is asked for; NONE, and a trap, if it cannot be called. */
        private int chosenElement() {
            top--;
            Table table = instance.table;
            if (values[top] >= table.size) {
                fall(6);
                return NONE;
            }
            int function = world.elements.at(table.from + (int) values[top], 0);
            if (function == NONE) {
                fall(7);
            } else if (!world.fits(function, instance.module, notes[at + 1])) {
                fall(8);
                return NONE;
            }
            return function;
        }

        private void useNamed(int instruction) {
            int number = notes[at + 1];
            switch (instruction) {
                case 0x20: putValue(values[base + number]); break;
                case 0x21:
                    top--;
                    values[base + number] = values[top];
                    break;
                case 0x22: values[base + number] = values[top - 1]; break;
                case VARIABLE_GET: putValue(world.variables.items[instance.variableId(number)]); break;
                default:
                    top--;
                    world.variables.items[instance.variableId(number)] = values[top];
                    break;
            }
        }

        private void sizeMemory(int instruction) {
            if (instruction == MEMORY_SIZE) {
                putValue(instance.memory.pageCount);
            } else {
                values[top - 1] = world.grow(instance.memory, values[top - 1]) & UNSIGNED;
            }
            at = notes[at];
        }

        private void useMemory(int instruction) {
            int k = instruction - FIRST_LOAD;
            boolean stores = instruction >= FIRST_STORE;
            int placeAt = stores ? top - 2 : top - 1;
            long place = values[placeAt] + (notes[at + 2] & UNSIGNED);
            if (place + MEMORY_BYTES[k] > instance.memory.bytes()) {
                fall(2);
                return;
            }
            if (stores) {
                instance.memory.store((int) place, MEMORY_BYTES[k], values[top - 1]);
                top -= 2;
            } else {
                long got = instance.memory.fetch((int) place, MEMORY_BYTES[k]);
                values[placeAt] = widened(instruction, got);
            }
            at = notes[at];
        }

        /** What was fetched, with its sign where the instruction wants it. */
        private static long widened(int instruction, long got) {
            switch (instruction) {
                case 0x2C: return (byte) got & UNSIGNED;
                case 0x2E: return (short) got & UNSIGNED;
                case 0x30: return (byte) got;
                case 0x32: return (short) got;
                case 0x34: return (int) got;
                default: return got;
            }
        }

        private void reckonWhole(int instruction) {
            if (instruction <= 0x66) {
                compare(instruction);
            } else if (instruction <= 0x78) {
                reckonShort(instruction);
            } else {
                reckonLong(instruction);
            }
        }

        private void reckonFloating(int instruction) {
            boolean isDouble = instruction >= 0x99;
            Format format = isDouble ? doubles : singles;
            int which = instruction - (isDouble ? 0x99 : 0x8B);
            if (which < 7) {
                values[top - 1] = format.reckonOne(which, values[top - 1]);
            } else {
                top--;
                values[top - 1] = format.reckonTwo(which - 7, values[top - 1], values[top]);
            }
        }

        private void compare(int instruction) {
            long last = values[top - 1];
            if (instruction == 0x45 || instruction == 0x50) {
                values[top - 1] = last == 0 ? 1 : 0;
                return;
            }
            top--;
            long first = values[top - 1];
            boolean holds;
            if (instruction <= 0x4F) {
                holds = Whole.holds(instruction - 0x46, (int) first, (int) last);
            } else if (instruction <= 0x5A) {
                holds = Whole.holds(instruction - 0x51, first, last);
            } else if (instruction <= 0x60) {
                holds = singles.holds(instruction - 0x5B, first, last);
            } else {
                holds = doubles.holds(instruction - 0x61, first, last);
            }
            values[top - 1] = holds ? 1 : 0;
        }

        private void reckonShort(int instruction) {
            int last = (int) values[top - 1];
            if (instruction <= 0x69) {
                values[top - 1] = Whole.countShort(instruction - 0x67, last);
                return;
            }
            int first = (int) values[top - 2];
            int which = instruction - 0x6A;
            int trapCode = Whole.trapOf(which, last == 0, first == LEAST_SHORT && last == -1);
            if (trapCode != 0) {
                fall(trapCode);
                return;
            }
            top--;
            values[top - 1] = Whole.reckonShort(which, first, last) & UNSIGNED;
        }

        private void reckonLong(int instruction) {
            long last = values[top - 1];
            if (instruction <= 0x7B) {
                values[top - 1] = Whole.countLong(instruction - 0x79, last);
                return;
            }
            long first = values[top - 2];
            int which = instruction - 0x7C;
            int trapCode = Whole.trapOf(which, last == 0, first == LEAST_LONG && last == -1);
            if (trapCode != 0) {
                fall(trapCode);
                return;
            }
            top--;
            values[top - 1] = Whole.reckonLong(which, first, last);
        }

        private void convert(int instruction) {
            long given = values[top - 1];
            switch (instruction) {
                case 0xA8: case 0xA9: truncate(singles, given, 32, instruction == 0xA8); break;
                case 0xAA: case 0xAB: truncate(doubles, given, 32, instruction == 0xAA); break;
                case 0xAE: case 0xAF: truncate(singles, given, 64, instruction == 0xAE); break;
                case 0xB0: case 0xB1: truncate(doubles, given, 64, instruction == 0xB0); break;
                default: values[top - 1] = converted(instruction, given); break;
            }
        }

        private void truncate(Format format, long given, int bits, boolean signed) {
            int trapCode = format.trapOfWhole(given, bits, signed);
            if (trapCode != 0) {
                fall(trapCode);
                return;
            }
            long whole = format.isNegative(given) ? -format.wholePart(given) : format.wholePart(given);
            values[top - 1] = bits == 32 ? whole & UNSIGNED : whole;
        }

        private long converted(int instruction, long given) {
            switch (instruction) {
                case 0xA7: return given & UNSIGNED;
                case 0xAC: return (int) given;
                case 0xB2: return singles.ofWhole((int) given, true);
                case 0xB3: case 0xB5: return singles.ofWhole(given, false);
                case 0xB4: return singles.ofWhole(given, true);
                case 0xB6: return singles.ofOther(doubles, given);
                case 0xB7: return doubles.ofWhole((int) given, true);
                case 0xB8: case 0xBA: return doubles.ofWhole(given, false);
                case 0xB9: return doubles.ofWhole(given, true);
                case 0xBB: return doubles.ofOther(singles, given);
                // 0xAD and 0xBC .. 0xBF: the bits are kept as they are already.
                default: return given;
            }
        }
    }

    /** Whole numbers; what an instruction does is told by its number in its group. */
    private static final class Whole {
        /** Of I the numbers come with their sign spread, which keeps their order without a sign, too. */
        static boolean holds(int which, long first, long last) {
            switch (which) {
                case 0: return first == last;
                case 1: return first != last;
                case 2: return first < last;
                case 3: return isBelow(first, last);
                case 4: return first > last;
                case 5: return isBelow(last, first);
                case 6: return first <= last;
                case 7: return !isBelow(last, first);
                case 8: return first >= last;
                default: return !isBelow(first, last);
            }
        }

        /** Both without a sign: with the highest bit turned over, their order is the one with a sign. */
        private static boolean isBelow(long first, long last) {
            return (first ^ LEAST_LONG) < (last ^ LEAST_LONG);
        }

        /** How many bits 0 there are above the highest 1, of 0 all 64. */
        static int zerosAbove(long number) {
            long rest = number;
            int zeros = 0;
            for (int width = 32; width > 0; width >>= 1) {
                if (rest >>> (64 - width) == 0) {
                    rest <<= width;
                    zeros += width;
                }
            }
            return number == 0 ? 64 : zeros;
        }

        static int countShort(int which, int number) {
            switch (which) {
                case 0: return zerosAbove(number & UNSIGNED) - 32;
                case 1: return Integer.bitCount(~number & (number - 1));
                default: return Integer.bitCount(number);
            }
        }

        static int countLong(int which, long number) {
            switch (which) {
                case 0: return zerosAbove(number);
                case 1: return Long.bitCount(~number & (number - 1));
                default: return Long.bitCount(number);
            }
        }

        /** The trap of a division, or 0; which is 3 .. 6 for / s, / u and the remainders. */
        static int trapOf(int which, boolean byZero, boolean leastByMinusOne) {
            if (which >= 3 && which <= 6 && byZero) {
                return 3;
            }
            return which == 3 && leastByMinusOne ? 4 : 0;
        }

        static int reckonShort(int which, int first, int last) {
            switch (which) {
                case 0: return first + last;
                case 1: return first - last;
                case 2: return first * last;
                case 3: case 4: case 5: case 6: return last == 0 ? 0 : divideShort(which, first, last);
                case 7: return first & last;
                case 8: return first | last;
                case 9: return first ^ last;
                case 10: return first << last;
                case 11: return first >> last;
                case 12: return first >>> last;
                case 13: return first << last | first >>> -last;
                default: return first >>> last | first << -last;
            }
        }

        private static int divideShort(int which, int first, int last) {
            long wideFirst = first & UNSIGNED;
            long wideLast = last & UNSIGNED;
            switch (which) {
                case 3: return first / last;
                case 4: return (int) (wideFirst / wideLast);
                case 5: return first % last;
                default: return (int) (wideFirst % wideLast);
            }
        }

        static long reckonLong(int which, long first, long last) {
            switch (which) {
                case 0: return first + last;
                case 1: return first - last;
                case 2: return first * last;
                case 3: case 4: case 5: case 6: return last == 0 ? 0 : divideLong(which, first, last);
                case 7: return first & last;
                case 8: return first | last;
                case 9: return first ^ last;
                case 10: return first << last;
                case 11: return first >> last;
                case 12: return first >>> last;
                case 13: return first << last | first >>> -last;
                default: return first >>> last | first << -last;
            }
        }

        private static long divideLong(int which, long first, long last) {
            switch (which) {
                case 3: return first / last;
                case 4: return quotient(first, last);
                case 5: return first % last;
                default: return first - quotient(first, last) * last;
            }
        }

        /** Of two numbers without a sign; the last is not 0. */
        private static long quotient(long first, long last) {
            if (last <= 0) {
                return first < 0 && first >= last ? 1 : 0;
            }
            if (first >= 0) {
                return first / last;
            }
            // Half of it is read alike with a sign and without; twice its quotient is at most 1 too low.
            long low = (first >>> 1) / last << 1;
            long rest = first - low * last;
            return rest < 0 || rest >= last ? low + 1 : low;
        }
    }

    /**
     * A floating-point format, its numbers kept and reckoned as bits. A finite number that is not 0 is its mantissa,
     * whose highest bit is always the same one, times 2 to the power of its exponent.
     */
    private static final class Format {
        private final int precision;
        private final int bias;
        private final long sign;
        private final long infinity;
        private final long nan;

        Format(int precision, int bias, long sign) {
            this.precision = precision;
            this.bias = bias;
            this.sign = sign;
            infinity = (2L * bias + 1) << (precision - 1);
            nan = infinity | 1L << (precision - 2);
        }

        boolean isNegative(long number) {
            return (number & sign) != 0;
        }

        private long magnitude(long number) {
            return number & (sign - 1);
        }

        private boolean isNan(long number) {
            return (number & (sign - 1)) > infinity;
        }

        private boolean isInfinite(long number) {
            return (number & (sign - 1)) == infinity;
        }

        private boolean isZero(long number) {
            return (number & (sign - 1)) == 0;
        }

        /** The power of 2 that the number begins with, of numbers that are not too small for one. */
        private int power(long number) {
            return (int) ((number & (sign - 1)) >>> (precision - 1)) - bias;
        }

        private long signed(boolean negative, long magnitude) {
            return negative ? magnitude | sign : magnitude;
        }

        private long mantissa(long number) {
            long magnitude = number & (sign - 1);
            long hidden = 1L << (precision - 1);
            if (magnitude < hidden) {
                return magnitude << Whole.zerosAbove(magnitude) - (64 - precision);
            }
            return magnitude & (hidden - 1) | hidden;
        }

        private int exponent(long number) {
            long magnitude = number & (sign - 1);
            int field = (int) (magnitude >>> (precision - 1));
            // A number too small for the usual form has leading zeros, which the mantissa has not.
            int lack = field > 0 ? 0 : Whole.zerosAbove(magnitude) - (64 - precision);
            return Math.max(1, field) - bias - (precision - 1) - lack;
        }

        /**
         * The number nearest to a significand (above 0) times a power of 2. Its lowest bit may stand for all that is
         * below it, if it has two bits more than the precision.
         */
        private long nearest(boolean negative, int exponent, long significand) {
            int up = Whole.zerosAbove(significand) - 1;
            long bits = significand << up;
            int field = exponent - up + 62 + bias;
            long signBit = negative ? sign : 0;
            if (field > 2 * bias) {
                return signBit | infinity;
            }
            int dropped = 63 - precision + (field > 0 ? 0 : 1 - field);
            if (dropped > 63) {
                return signBit;
            }
            long kept = bits >>> dropped;
            long rest = bits & ((1L << dropped) - 1);
            long half = 1L << (dropped - 1);
            if (rest > half || rest == half && (kept & 1) == 1) {
                kept++;
            }
            // What is kept has the bit that is not written, which makes the field one more; so does a carry.
            long below = field > 0 ? (long) (field - 1) << (precision - 1) : 0;
            return signBit | below + kept;
        }

        boolean holds(int which, long first, long last) {
            if (isNan(first) || isNan(last)) {
                return which == 1;
            }
            long a = ordered(first);
            long b = ordered(last);
            switch (which) {
                case 0: return a == b;
                case 1: return a != b;
                case 2: return a < b;
                case 3: return a > b;
                case 4: return a <= b;
                default: return a >= b;
            }
        }

        /** A whole number that stands among others as the number does; 0 and -0 are the same. */
        private long ordered(long number) {
            return isNegative(number) ? -magnitude(number) : magnitude(number);
        }

        long reckonOne(int which, long number) {
            switch (which) {
                case 0: return magnitude(number);
                case 1: return number ^ sign;
                case 6: return root(number);
                default: return isNan(number) ? nan : rounded(which, number);
            }
        }

        /** 2 not below, 3 not above, 4 toward 0, 5 nearest. */
        private long rounded(int which, long number) {
            int power = power(number);
            if (power >= precision - 1 || isZero(number)) {
                return number;
            }
            boolean negative = isNegative(number);
            long magnitude = magnitude(number);
            if (power < 0) {
                boolean aboveHalf = power == -1 && magnitude > (long) (bias - 1) << (precision - 1);
                boolean toOne = isAway(which, negative, aboveHalf);
                return signed(negative, toOne ? (long) bias << (precision - 1) : 0);
            }
            int below = precision - 1 - power;
            long rest = magnitude & ((1L << below) - 1);
            long whole = magnitude - rest;
            if (rest == 0) {
                return number;
            }
            long half = 1L << (below - 1);
            // The bias is odd, so the lowest bit of the field stands for the unwritten 1 of a number below 2.
            boolean odd = (whole >>> below & 1) == 1;
            boolean away = isAway(which, negative, rest > half || rest == half && odd);
            return signed(negative, away ? whole + (1L << below) : whole);
        }

        /** Whether a number that is not whole goes to the whole number that is farther from 0. */
        private static boolean isAway(int which, boolean negative, boolean nearer) {
            switch (which) {
                case 2: return !negative;
                case 3: return negative;
                case 4: return false;
                default: return nearer;
            }
        }

        private long root(long number) {
            if (isZero(number)) {
                return number;
            }
            if (isNan(number) || isNegative(number)) {
                return nan;
            }
            if (isInfinite(number)) {
                return number;
            }
            long bits = mantissa(number) << (64 - precision);
            int exponent = exponent(number) - (64 - precision);
            if ((exponent & 1) != 0) {
                bits >>>= 1;
                exponent++;
            }
            long root = 0;
            long rest = 0;
            // Two bits of the number make one of the root; 32 would do for its whole part, 28 more come behind it.
            for (int k = 0; k < 60; k++) {
                rest = rest << 2 | bits >>> 62;
                bits <<= 2;
                long trial = root << 2 | 1;
                root <<= 1;
                if (rest >= trial) {
                    rest -= trial;
                    root |= 1;
                }
            }
            return nearest(false, (exponent >> 1) - 29, root << 1 | (rest != 0 ? 1 : 0));
        }

        long reckonTwo(int which, long first, long last) {
            if (which == 6) {
                return magnitude(first) | last & sign;
            }
            if (isNan(first) || isNan(last)) {
                return nan;
            }
            switch (which) {
                case 0: return sum(first, last);
                case 1: return sum(first, last ^ sign);
                case 2: return product(first, last);
                case 3: return quotient(first, last);
                case 4: return lesser(first, last);
                default: return greater(first, last);
            }
        }

        private long lesser(long first, long last) {
            if (ordered(first) == ordered(last)) {
                return first | last;
            }
            return ordered(first) < ordered(last) ? first : last;
        }

        private long greater(long first, long last) {
            if (ordered(first) == ordered(last)) {
                return first & last;
            }
            return ordered(first) > ordered(last) ? first : last;
        }

        private long sum(long first, long last) {
            if (isInfinite(first) || isInfinite(last) || isZero(first) || isZero(last)) {
                return sumOfBounds(first, last);
            }
            int up = 62 - precision;
            long a = mantissa(first) << up;
            long b = mantissa(last) << up;
            int apart = exponent(first) - exponent(last);
            if (apart >= 0) {
                b = lowered(b, apart);
            } else {
                a = lowered(a, -apart);
            }
            long sum = (isNegative(first) ? -a : a) + (isNegative(last) ? -b : b);
            if (sum == 0) {
                return 0;
            }
            int exponent = Math.max(exponent(first), exponent(last)) - up;
            return nearest(sum < 0, exponent, sum < 0 ? -sum : sum);
        }

        /** The sum where a number is 0 or infinite. */
        private long sumOfBounds(long first, long last) {
            if (isInfinite(first)) {
                return isInfinite(last) && first != last ? nan : first;
            }
            if (isInfinite(last)) {
                return last;
            }
            if (isZero(first)) {
                return isZero(last) ? first & last : last;
            }
            return first;
        }

        /** Shifted down; what is lost makes it odd, so that it still counts when the sum is rounded. */
        private static long lowered(long bits, int by) {
            if (by > 62) {
                return 1;
            }
            long lost = bits & ((1L << by) - 1);
            return bits >>> by | (lost != 0 ? 1 : 0);
        }

        private long product(long first, long last) {
            boolean negative = isNegative(first) != isNegative(last);
            if (isInfinite(first) || isInfinite(last)) {
                return isZero(first) || isZero(last) ? nan : signed(negative, infinity);
            }
            if (isZero(first) || isZero(last)) {
                return signed(negative, 0);
            }
            int up = 63 - precision;
            int exponent = exponent(first) + exponent(last) - 2 * up + 64;
            return nearest(negative, exponent, highProduct(mantissa(first) << up, mantissa(last) << up));
        }

        /** The upper 64 bits of the product of two numbers below 2 to the power of 63; a 1 below makes it odd. */
        private static long highProduct(long first, long last) {
            long firstLow = first & UNSIGNED;
            long firstHigh = first >>> 32;
            long lastLow = last & UNSIGNED;
            long lastHigh = last >>> 32;
            long low = firstLow * lastLow;
            long middle = firstHigh * lastLow + (low >>> 32);
            long other = firstLow * lastHigh + (middle & UNSIGNED);
            long high = firstHigh * lastHigh + (middle >>> 32) + (other >>> 32);
            boolean more = (low & UNSIGNED) != 0 || (other & UNSIGNED) != 0;
            return more ? high | 1 : high;
        }

        private long quotient(long first, long last) {
            boolean negative = isNegative(first) != isNegative(last);
            if (isInfinite(first) && isInfinite(last) || isZero(first) && isZero(last)) {
                return nan;
            }
            if (isInfinite(first) || isZero(last)) {
                return signed(negative, infinity);
            }
            if (isZero(first) || isInfinite(last)) {
                return signed(negative, 0);
            }
            long rest = mantissa(first);
            long divisor = mantissa(last);
            long quotient = 0;
            for (int k = 0; k < 60; k++) {
                quotient <<= 1;
                if (rest >= divisor) {
                    rest -= divisor;
                    quotient |= 1;
                }
                rest <<= 1;
            }
            return nearest(negative, exponent(first) - exponent(last) - 60, quotient << 1 | (rest != 0 ? 1 : 0));
        }

        /** 5 for a NaN, 4 if its whole part is no number of so many bits, else 0. */
        int trapOfWhole(long number, int bits, boolean withSign) {
            if (isNan(number)) {
                return 5;
            }
            if (power(number) >= 64) {
                return 4;
            }
            long whole = wholePart(number);
            boolean negative = isNegative(number);
            boolean fits;
            if (!withSign) {
                fits = negative ? whole == 0 : bits == 64 || whole >>> 32 == 0;
            } else {
                fits = whole >>> (bits - 1) == 0 || negative && whole == 1L << (bits - 1);
            }
            return fits ? 0 : 4;
        }

        /** The whole number toward 0, without the sign, of a number below 2 to the power of 64. */
        long wholePart(long number) {
            int power = power(number);
            if (power < 0) {
                return 0;
            }
            long hidden = 1L << (precision - 1);
            long significand = number & (hidden - 1) | hidden;
            int above = power - (precision - 1);
            return above >= 0 ? significand << above : significand >>> -above;
        }

        long ofWhole(long number, boolean withSign) {
            boolean negative = withSign && number < 0;
            long magnitude = negative ? -number : number;
            if (magnitude == 0) {
                return 0;
            }
            // Of 64 bits the lowest can only count as lost.
            if (magnitude < 0) {
                return nearest(negative, 1, magnitude >>> 1 | magnitude & 1);
            }
            return nearest(negative, 0, magnitude);
        }

        long ofOther(Format other, long number) {
            if (other.isNan(number)) {
                return nan;
            }
            boolean negative = other.isNegative(number);
            if (other.isInfinite(number)) {
                return signed(negative, infinity);
            }
            if (other.isZero(number)) {
                return signed(negative, 0);
            }
            return nearest(negative, other.exponent(number), other.mantissa(number));
        }
    }
}
