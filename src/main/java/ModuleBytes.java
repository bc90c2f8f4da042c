import java.util.Arrays;

/** Reads a row of bytes as a module, and answers what the module holds or where and why it is none. */
public final class ModuleBytes {
    private static final int MOST_BYTES = 2000;
    private static final int BYTES_OF_A_FEED = 20;
    private static final int NONE = -1;

    // The kinds of things, by the numbers that many() and look() have for them.
    private static final int TYPES = 0;
    private static final int IMPORTS = 1;
    private static final int FUNCTIONS = 2;
    private static final int TABLES = 3;
    private static final int MEMORIES = 4;
    private static final int GLOBALS = 5;
    private static final int EXPORTS = 6;
    private static final int ELEMENTS = 7;
    private static final int BODIES = 8;
    private static final int DATA = 9;
    private static final int CUSTOMS = 10;
    private static final int KINDS = 11;

    // Of each kind: its first columns are the numbers that look() may ask for; those behind them
    // are pairs that only this class sees: a place and a length, of a name, a row of types or a list.
    private static final int[] SEEN_COLUMNS = {0, 4, 1, 4, 4, 6, 2, 7, 6, 7, 7};
    private static final int[] OWN_COLUMNS = {4, 4, 0, 0, 0, 0, 2, 2, 2, 0, 2};
    private static final int FIRST_OF_LIST = 8;

    private static final int FAULT_ENDS = 1;
    private static final int FAULT_PART_TOO_LONG = 2;
    private static final int FAULT_BYTES_LEFT = 3;
    private static final int FAULT_NUMBER = 4;
    private static final int FAULT_BEGINNING = 5;
    private static final int FAULT_SECTION = 6;
    private static final int FAULT_CHOICE = 7;
    private static final int FAULT_TYPE = 8;
    private static final int FAULT_CHARACTER = 9;
    private static final int FAULT_INSTRUCTION = 10;
    private static final int FAULT_NO_DATA_COUNT = 11;
    private static final int FAULT_LOCALS = 12;
    private static final int FAULT_BODIES = 13;
    private static final int FAULT_DATA = 14;

    private final ModuleReader reader;
    private Contents module;
    private Contents draft;
    private int fed;
    private int latestPlace;

    public ModuleBytes() {
        module = new Contents();
        draft = new Contents();
        reader = new ModuleReader(draft);
        fed = 0;
        latestPlace = NONE;
    }

    public int feed(int a, int b, int c, int d, int e) {
        if (fed > MOST_BYTES - BYTES_OF_A_FEED) {
            return NONE;
        }
        draft.putNumber(fed, a);
        draft.putNumber(fed + 4, b);
        draft.putNumber(fed + 8, c);
        draft.putNumber(fed + 12, d);
        draft.putNumber(fed + 16, e);
        fed += BYTES_OF_A_FEED;
        return fed;
    }

    public int end(int n) {
        if (n < 0 || n > fed) {
            return NONE;
        }
        fed = 0;
        try {
            reader.readModule(draft, n);
        } catch (IllegalStateException stopped) {
            latestPlace = reader.source.faultPlace;
            return reader.source.fault;
        }
        // The two change places, so that no reading has to make rows anew.
        Contents older = module;
        module = draft;
        draft = older;
        latestPlace = NONE;
        return 0;
    }

    public int place() {
        return latestPlace;
    }

    public long many(int what) {
        if (what >= 0 && what < KINDS) {
            return module.kinds[what].count;
        }
        switch (what) {
            case 11:
                return module.sections;
            case 12:
                return module.start;
            case 13:
                return module.dataCount;
            default:
                return NONE;
        }
    }

    public int type(int k, int side, int i) {
        if (side != 0 && side != 1) {
            return NONE;
        }
        return module.byteOfStretch(TYPES, k, 2 * side, i);
    }

    public long look(int kind, int k, int what) {
        if (kind < 0 || kind >= KINDS) {
            return NONE;
        }
        if (what >= FIRST_OF_LIST) {
            return module.listed(kind, k, what - FIRST_OF_LIST);
        }
        return what < SEEN_COLUMNS[kind] ? module.kinds[kind].at(k, what) : NONE;
    }

    public int name(int kind, int k, int part, int i) {
        boolean hasPart = part == 0 && (kind == IMPORTS || kind == EXPORTS || kind == CUSTOMS)
            || part == 1 && kind == IMPORTS;
        if (!hasPart) {
            return NONE;
        }
        return module.byteOfStretch(kind, k, SEEN_COLUMNS[kind] + 2 * part, i);
    }

    /** Records of one width; what has not been put into a record is NONE. */
    private static final class Table {
        private static final int FIRST_RECORDS = 4;

        private final int width;
        private long[] cells;
        int count;

        Table(int width) {
            this.width = width;
            cells = new long[width * FIRST_RECORDS];
            count = 0;
        }

        void clear() {
            count = 0;
        }

        void begin() {
            int from = count * width;
            if (from + width > cells.length) {
                cells = Arrays.copyOf(cells, 2 * (from + width));
            }
            for (int i = from; i < from + width; i++) {
                cells[i] = NONE;
            }
            count++;
        }

        /** Puts a value into the record that was begun last. */
        void put(int column, long value) {
            if (count > 0 && column >= 0 && column < width) {
                cells[(count - 1) * width + column] = value;
            }
        }

        long at(int k, int column) {
            if (k < 0 || k >= count || column < 0 || column >= width) {
                return NONE;
            }
            return cells[k * width + column];
        }
    }

    /** The bytes of one module, and all that has been read from them. */
    private static final class Contents {
        final byte[] bytes;
        final Table[] kinds;
        // What the elements and the bodies list, all behind one another.
        final Table lists;
        int sections;
        long start;
        long dataCount;

        Contents() {
            bytes = new byte[MOST_BYTES];
            kinds = new Table[KINDS];
            for (int kind = 0; kind < KINDS; kind++) {
                kinds[kind] = new Table(SEEN_COLUMNS[kind] + OWN_COLUMNS[kind]);
            }
            lists = new Table(1);
            sections = 0;
            start = NONE;
            dataCount = NONE;
        }

        void clear() {
            for (int kind = 0; kind < KINDS; kind++) {
                kinds[kind].clear();
            }
            lists.clear();
            sections = 0;
            start = NONE;
            dataCount = NONE;
        }

        void putNumber(int place, int number) {
            if (place < 0 || place > bytes.length - 4) {
                return;
            }
            bytes[place] = (byte) (number >>> 24);
            bytes[place + 1] = (byte) (number >>> 16);
            bytes[place + 2] = (byte) (number >>> 8);
            bytes[place + 3] = (byte) number;
        }

        void addToList(long value) {
            lists.begin();
            lists.put(0, value);
        }

        long listed(int kind, int k, int i) {
            if (kind != ELEMENTS && kind != BODIES) {
                return NONE;
            }
            long first = kinds[kind].at(k, SEEN_COLUMNS[kind]);
            long length = kinds[kind].at(k, SEEN_COLUMNS[kind] + 1);
            if (i < 0 || i >= length) {
                return NONE;
            }
            return lists.at((int) first + i, 0);
        }

        /** The i-th of the bytes whose place and length stand in two columns; how many for i = -1. */
        int byteOfStretch(int kind, int k, int column, int i) {
            if (kind < 0 || kind >= KINDS) {
                return NONE;
            }
            long first = kinds[kind].at(k, column);
            long length = kinds[kind].at(k, column + 1);
            if (i == -1) {
                return (int) length;
            }
            if (i < 0 || i >= length || first < 0 || first + i >= bytes.length) {
                return NONE;
            }
            return bytes[(int) first + i] & 255;
        }
    }

    /** The bytes up to the end of the innermost part; every fault is kept here and stops the reading by a throw. */
    private static final class Source {
        private byte[] bytes;
        int at;
        int limit;
        int fault;
        int faultPlace;

        Source(byte[] bytes) {
            this.bytes = bytes;
            at = 0;
            limit = 0;
            fault = 0;
            faultPlace = NONE;
        }

        void open(byte[] newBytes, int length) {
            bytes = newBytes;
            at = 0;
            limit = Math.min(length, newBytes.length);
        }

        void fail(int newFault, int newPlace) {
            fault = newFault;
            faultPlace = newPlace;
            throw new IllegalStateException("the bytes are no module");
        }

        // It throws by itself and not through fail, since it stands at the end of the longest chain of calls.
        int next() {
            if (at >= limit) {
                fault = FAULT_ENDS;
                faultPlace = limit;
                throw new IllegalStateException("the bytes of the part end");
            }
            int value = bytes[at] & 255;
            at++;
            return value;
        }

        void skip(long length) {
            if (length > limit - at) {
                fail(FAULT_ENDS, limit);
            }
            at += (int) length;
        }

        /** Enters a part that begins with its length, and answers the end of the part around it. */
        int enter() {
            int begin = at;
            long length = u32();
            if (length > limit - at) {
                fail(FAULT_PART_TOO_LONG, begin);
            }
            int outer = limit;
            limit = at + (int) length;
            return outer;
        }

        void leave(int outer) {
            if (at < limit) {
                fail(FAULT_BYTES_LEFT, at);
            }
            limit = outer;
        }

        long u32() {
            long value = 0;
            for (int shift = 0; shift <= 28; shift += 7) {
                int group = next();
                if (shift == 28 && group > 15) {
                    fail(FAULT_NUMBER, at - 1);
                }
                value |= (long) (group & 127) << shift;
                if (group < 128) {
                    break;
                }
            }
            return value;
        }

        /** Reads a number with sign of so many bits, and answers whether it is below 0. */
        boolean signedBelowZero(int bits) {
            int group = 0;
            for (int left = bits; left > 0; left -= 7) {
                group = next();
                if (left <= 7) {
                    // The sign and all bits above it, the one that tells of another byte too.
                    int top = group >> (left - 1);
                    if (top != 0 && top != 127 >> (left - 1)) {
                        fail(FAULT_NUMBER, at - 1);
                    }
                }
                if (group < 128) {
                    break;
                }
            }
            return (group & 64) != 0;
        }

        /** A byte from 0 to most. */
        int choice(int most) {
            int value = next();
            if (value > most) {
                fail(FAULT_CHOICE, at - 1);
            }
            return value;
        }

        /** A U32 from 0 to most. */
        int numberedChoice(int most) {
            int begin = at;
            long value = u32();
            if (value > most) {
                fail(FAULT_CHOICE, begin);
            }
            return (int) value;
        }

        int referenceType() {
            int value = next();
            if (!isReferenceType(value)) {
                fail(FAULT_TYPE, at - 1);
            }
            return value;
        }

        int valueType() {
            int value = next();
            if (!isValueType(value)) {
                fail(FAULT_TYPE, at - 1);
            }
            return value;
        }

        void functionMark() {
            if (next() != 96) {
                fail(FAULT_TYPE, at - 1);
            }
        }

        void blockType() {
            int begin = at;
            boolean belowZero = signedBelowZero(33);
            if (!belowZero) {
                return;
            }
            int first = begin < limit ? bytes[begin] & 255 : 0;
            boolean oneByte = at == begin + 1;
            if (!oneByte || first != 64 && !isValueType(first)) {
                fail(FAULT_TYPE, begin);
            }
        }

        private static boolean isReferenceType(int value) {
            return value == 112 || value == 111;
        }

        private static boolean isValueType(int value) {
            return value >= 124 && value <= 127 || value == 112 || value == 111;
        }

        /** Reads a name and puts its place and its length into two columns. */
        void nameInto(Table table, int column) {
            long length = u32();
            int first = at;
            skip(length);
            table.put(column, first);
            table.put(column + 1, length);
            int size = 0;
            for (int place = first; place < at; place += size) {
                size = characterSize(place);
                if (size <= 0) {
                    fail(FAULT_CHARACTER, place);
                    return;
                }
            }
        }

        /** How many bytes the character has that begins there and ends ahead of where reading stands; 0 if it is none. */
        private int characterSize(int place) {
            int lead = bytes[place] & 255;
            if (lead < 128) {
                return 1;
            }
            int size = lead >= 240 ? 4 : lead >= 224 ? 3 : 2;
            if (lead < 192 || lead > 247 || size > at - place) {
                return 0;
            }
            int value = lead & (127 >> size);
            for (int i = 1; i < size; i++) {
                int follower = bytes[place + i] & 255;
                if (follower < 128 || follower > 191) {
                    return 0;
                }
                value = value * 64 + (follower - 128);
            }
            return needsSize(value, size) ? size : 0;
        }

        private static boolean needsSize(int value, int size) {
            switch (size) {
                case 2:
                    return value >= 128;
                case 3:
                    return value >= 2048 && (value < 55296 || value > 57343);
                default:
                    return value >= 65536 && value <= 1114111;
            }
        }
    }

    /** Reads the instructions of expressions. */
    private static final class ExpressionReader {
        // What stands behind an instruction.
        private static final int NO_INSTRUCTION = 0;
        private static final int NOTHING = 1;
        private static final int NUMBER = 2;
        private static final int TWO_NUMBERS = 3;
        private static final int NUMBERS_AND_ONE = 4;
        private static final int VALUE_TYPES = 5;
        private static final int ZERO = 6;
        private static final int TWO_ZEROS = 7;
        private static final int NUMBER_AND_ZERO = 8;
        private static final int SIGNED_32 = 9;
        private static final int SIGNED_64 = 10;
        private static final int FOUR_BYTES = 11;
        private static final int EIGHT_BYTES = 12;
        private static final int REFERENCE_TYPE = 13;

        private final Source source;
        // Of each open block, whether a 5 may still come; a block has two bytes at least.
        private final boolean[] elseMayCome;
        private int depth;
        boolean dataCounted;

        ExpressionReader(Source source) {
            this.source = source;
            elseMayCome = new boolean[MOST_BYTES / 2];
            depth = 0;
            dataCounted = false;
        }

        void readExpression() {
            depth = 0;
            boolean open = true;
            for (int i = 0; open && i < MOST_BYTES; i++) {
                int begin = source.at;
                int code = source.next();
                switch (code) {
                    case 2:
                    case 3:
                    case 4:
                        source.blockType();
                        openBlock(code == 4);
                        break;
                    case 5:
                        turnToElse(begin);
                        break;
                    case 11:
                        open = depth > 0;
                        depth--;
                        break;
                    case 252:
                        readOperands(shapeBehind252(begin), begin);
                        break;
                    default:
                        readOperands(shapeOf(code), begin);
                        break;
                }
            }
        }

        private void openBlock(boolean mayHaveElse) {
            if (depth >= 0 && depth < elseMayCome.length) {
                elseMayCome[depth] = mayHaveElse;
            }
            depth++;
        }

        private void turnToElse(int begin) {
            int innermost = depth - 1;
            if (innermost < 0 || innermost >= elseMayCome.length || !elseMayCome[innermost]) {
                source.fail(FAULT_INSTRUCTION, begin);
                return;
            }
            elseMayCome[innermost] = false;
        }

        private static int shapeOf(int code) {
            if (code >= 69 && code <= 196) {
                return NOTHING;
            }
            if (code >= 40 && code <= 62) {
                return TWO_NUMBERS;
            }
            if (code >= 32 && code <= 38) {
                return NUMBER;
            }
            switch (code) {
                case 0:
                case 1:
                case 15:
                case 26:
                case 27:
                case 209:
                    return NOTHING;
                case 12:
                case 13:
                case 16:
                case 210:
                    return NUMBER;
                case 14:
                    return NUMBERS_AND_ONE;
                case 17:
                    return TWO_NUMBERS;
                case 28:
                    return VALUE_TYPES;
                case 63:
                case 64:
                    return ZERO;
                case 65:
                    return SIGNED_32;
                case 66:
                    return SIGNED_64;
                case 67:
                    return FOUR_BYTES;
                case 68:
                    return EIGHT_BYTES;
                case 208:
                    return REFERENCE_TYPE;
                default:
                    return NO_INSTRUCTION;
            }
        }

        private int shapeBehind252(int begin) {
            long k = source.u32();
            if ((k == 8 || k == 9) && !dataCounted) {
                source.fail(FAULT_NO_DATA_COUNT, begin);
            }
            if (k <= 7) {
                return NOTHING;
            }
            if (k > 17) {
                return NO_INSTRUCTION;
            }
            switch ((int) k) {
                case 8:
                    return NUMBER_AND_ZERO;
                case 10:
                    return TWO_ZEROS;
                case 11:
                    return ZERO;
                case 12:
                case 14:
                    return TWO_NUMBERS;
                default:
                    return NUMBER;
            }
        }

        private void readOperands(int shape, int begin) {
            switch (shape) {
                case NOTHING:
                    break;
                case NUMBER:
                    source.u32();
                    break;
                case TWO_NUMBERS:
                    source.u32();
                    source.u32();
                    break;
                case NUMBERS_AND_ONE:
                    for (long left = source.u32(); left >= 0; left--) {
                        source.u32();
                    }
                    break;
                case VALUE_TYPES:
                    for (long left = source.u32(); left > 0; left--) {
                        source.valueType();
                    }
                    break;
                case ZERO:
                    source.choice(0);
                    break;
                case TWO_ZEROS:
                    source.choice(0);
                    source.choice(0);
                    break;
                case NUMBER_AND_ZERO:
                    source.u32();
                    source.choice(0);
                    break;
                case SIGNED_32:
                    source.signedBelowZero(32);
                    break;
                case SIGNED_64:
                    source.signedBelowZero(64);
                    break;
                case FOUR_BYTES:
                    source.skip(4);
                    break;
                case EIGHT_BYTES:
                    source.skip(8);
                    break;
                case REFERENCE_TYPE:
                    source.referenceType();
                    break;
                default:
                    source.fail(FAULT_INSTRUCTION, begin);
                    break;
            }
        }
    }

    /** Reads a module, section by section, into its contents. */
    private static final class ModuleReader {
        private static final int[] BEGINNING = {0, 97, 115, 109, 1, 0, 0, 0};
        // By a section's id: where it stands in the order of the sections.
        private static final int[] RANKS = {0, 1, 2, 3, 4, 5, 6, 7, 8, 9, 11, 12, 10};
        private static final long MOST_LOCALS = 4294967295L;

        final Source source;
        private final ExpressionReader expressions;
        private Contents into;
        private int latestRank;

        ModuleReader(Contents into) {
            this.into = into;
            source = new Source(into.bytes);
            expressions = new ExpressionReader(source);
            latestRank = 0;
        }

        /** Returns when the first bytes are a module; throws IllegalStateException when the source has a fault. */
        void readModule(Contents contents, int length) {
            into = contents;
            into.clear();
            source.open(into.bytes, length);
            expressions.dataCounted = false;
            latestRank = 0;
            readBeginning();
            for (int i = 0; i < MOST_BYTES && source.at < source.limit; i++) {
                int id = readId();
                int outer = source.enter();
                switch (id) {
                    case 0:
                        readCustom();
                        break;
                    case 8:
                        into.start = source.u32();
                        break;
                    case 12:
                        into.dataCount = source.u32();
                        expressions.dataCounted = true;
                        break;
                    default:
                        readRow(id);
                        break;
                }
                source.leave(outer);
                into.sections++;
            }
            compareCounts();
        }

        private void readBeginning() {
            for (int i = 0; i < BEGINNING.length; i++) {
                if (source.next() != BEGINNING[i]) {
                    source.fail(FAULT_BEGINNING, i);
                }
            }
        }

        private int readId() {
            int id = source.next();
            if (id == 0) {
                return id;
            }
            if (id >= RANKS.length || RANKS[id] <= latestRank) {
                source.fail(FAULT_SECTION, source.at - 1);
                return id;
            }
            latestRank = RANKS[id];
            return id;
        }

        private void compareCounts() {
            if (into.kinds[FUNCTIONS].count != into.kinds[BODIES].count) {
                source.fail(FAULT_BODIES, source.limit);
            }
            if (into.dataCount != NONE && into.dataCount != into.kinds[DATA].count) {
                source.fail(FAULT_DATA, source.limit);
            }
        }

        private void readCustom() {
            Table customs = into.kinds[CUSTOMS];
            customs.begin();
            source.nameInto(customs, SEEN_COLUMNS[CUSTOMS]);
            customs.put(3, source.limit - source.at);
            customs.put(6, source.at);
            source.at = source.limit;
        }

        private void readRow(int id) {
            for (long left = source.u32(); left > 0; left--) {
                switch (id) {
                    case 1:
                        readFunctionType();
                        break;
                    case 2:
                        readImport();
                        break;
                    case 3:
                        readFunction();
                        break;
                    case 4:
                        into.kinds[TABLES].begin();
                        readTable(into.kinds[TABLES]);
                        break;
                    case 5:
                        into.kinds[MEMORIES].begin();
                        readMemory(into.kinds[MEMORIES]);
                        break;
                    case 6:
                        readOwnGlobal();
                        break;
                    case 7:
                        readExport();
                        break;
                    case 9:
                        readElement();
                        break;
                    case 10:
                        readBody();
                        break;
                    default:
                        readData();
                        break;
                }
            }
        }

        private void readFunctionType() {
            source.functionMark();
            Table types = into.kinds[TYPES];
            types.begin();
            for (int side = 0; side < 2; side++) {
                long length = source.u32();
                types.put(2 * side, source.at);
                types.put(2 * side + 1, length);
                for (long left = length; left > 0; left--) {
                    source.valueType();
                }
            }
        }

        private void readImport() {
            Table imports = into.kinds[IMPORTS];
            imports.begin();
            source.nameInto(imports, SEEN_COLUMNS[IMPORTS]);
            source.nameInto(imports, SEEN_COLUMNS[IMPORTS] + 2);
            int sort = source.choice(3);
            imports.put(0, sort);
            switch (sort) {
                case 0:
                    imports.put(1, source.u32());
                    imports.put(2, 0);
                    break;
                case 1:
                    readTable(imports);
                    break;
                case 2:
                    readMemory(imports);
                    break;
                default:
                    readGlobal(imports);
                    break;
            }
        }

        private void readFunction() {
            into.kinds[FUNCTIONS].begin();
            into.kinds[FUNCTIONS].put(0, source.u32());
        }

        private void readTable(Table table) {
            table.put(1, source.referenceType());
            readLimits(table);
        }

        private void readMemory(Table table) {
            table.put(1, 0);
            readLimits(table);
        }

        private void readLimits(Table table) {
            boolean hasGreatest = source.choice(1) == 1;
            table.put(2, source.u32());
            if (hasGreatest) {
                table.put(3, source.u32());
            }
        }

        private void readGlobal(Table table) {
            table.put(1, source.valueType());
            table.put(2, source.choice(1));
        }

        private void readOwnGlobal() {
            Table globals = into.kinds[GLOBALS];
            globals.begin();
            readGlobal(globals);
            globals.put(4, source.at);
            expressions.readExpression();
            globals.put(5, source.at);
        }

        private void readExport() {
            Table exports = into.kinds[EXPORTS];
            exports.begin();
            source.nameInto(exports, SEEN_COLUMNS[EXPORTS]);
            exports.put(0, source.choice(3));
            exports.put(1, source.u32());
        }

        private void readElement() {
            int m = source.numberedChoice(7);
            boolean active = (m & 1) == 0;
            boolean second = (m & 2) != 0;
            boolean ofExpressions = (m & 4) != 0;
            Table elements = into.kinds[ELEMENTS];
            elements.begin();
            elements.put(0, active ? 1 : second ? 2 : 0);
            elements.put(2, active && second ? source.u32() : 0);
            if (active) {
                elements.put(4, source.at);
                expressions.readExpression();
                elements.put(5, source.at);
            }
            elements.put(1, readElementType(m));
            elements.put(6, ofExpressions ? 1 : 0);
            long length = source.u32();
            elements.put(3, length);
            elements.put(SEEN_COLUMNS[ELEMENTS], into.lists.count);
            elements.put(SEEN_COLUMNS[ELEMENTS] + 1, length);
            for (long left = length; left > 0; left--) {
                if (ofExpressions) {
                    into.addToList(source.at);
                    expressions.readExpression();
                } else {
                    into.addToList(source.u32());
                }
            }
        }

        private int readElementType(int m) {
            if (m == 0 || m == 4) {
                return 112;
            }
            if ((m & 4) != 0) {
                return source.referenceType();
            }
            source.choice(0);
            return 112;
        }

        private void readBody() {
            int outer = source.enter();
            Table bodies = into.kinds[BODIES];
            bodies.begin();
            readLocals(bodies);
            bodies.put(4, source.at);
            expressions.readExpression();
            bodies.put(5, source.at);
            source.leave(outer);
        }

        private void readLocals(Table bodies) {
            int begin = source.at;
            long rows = source.u32();
            bodies.put(0, rows);
            bodies.put(SEEN_COLUMNS[BODIES], into.lists.count);
            bodies.put(SEEN_COLUMNS[BODIES] + 1, 2 * rows);
            long all = 0;
            for (long left = rows; left > 0; left--) {
                long locals = source.u32();
                into.addToList(locals);
                into.addToList(source.valueType());
                all += locals;
            }
            if (all > MOST_LOCALS) {
                source.fail(FAULT_LOCALS, begin);
            }
            bodies.put(1, all);
        }

        private void readData() {
            int m = source.numberedChoice(2);
            Table data = into.kinds[DATA];
            data.begin();
            data.put(0, m == 1 ? 0 : 1);
            data.put(2, m == 2 ? source.u32() : 0);
            if (m != 1) {
                data.put(4, source.at);
                expressions.readExpression();
                data.put(5, source.at);
            }
            long length = source.u32();
            data.put(3, length);
            data.put(6, source.at);
            source.skip(length);
        }
    }
}
