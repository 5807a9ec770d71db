import java.util.Arrays;

public final class TollAlmanac {
    public static final int NONE = -1;

    private static final long NO_VALUE = -2000000000000000L;
    private static final long VALUE_LIMIT = 1000000000000000L;

    private static final int FIRST_YEAR = 1700;
    private static final int YEARS = 30;
    private static final int TAPE_ROOM = 900;
    private static final int FEED_BYTES = 20;
    private static final int CONSTS = 8;
    private static final int TABLES = 6;
    private static final int ENTRIES = 12;
    private static final int STEPS = 40;
    private static final int OPEN_CHOICES = 12;
    private static final int OPEN_TRIES = 3;
    private static final int LAST_CHECK = 800;
    private static final int VOYAGES = 20;
    private static final int LOCKS = 8;
    private static final int KEPT_STARTS = 300;

    // Far above what one call can need: 30 years of 900 tokens, each worked for 12 entries.
    private static final int TURNS = 1000000;

    private static final int FAULT_TEXT = 1;
    private static final int FAULT_TWICE = 2;
    private static final int FAULT_YEAR = 3;
    private static final int FAULT_NUMBER = 4;
    private static final int FAULT_TOO_MANY = 5;
    private static final int FAULT_WORD = 6;

    private static final int THROWN_DIVISOR = 801;
    private static final int THROWN_NAME = 802;
    private static final int THROWN_NO_CLASS = 803;
    private static final int THROWN_WITHDRAWN = 804;
    private static final int THROWN_ENTRY = 805;

    private static final int NO_CLASS = 0;
    private static final int NOT_STARTED = 1;
    private static final int STARTED = 2;
    private static final int WITHDRAWN = 3;
    private static final int STARTING = 4;

    // Signs have their own byte as kind; these stay clear of all bytes that are signs.
    private static final int KIND_END = 0;
    private static final int KIND_BROKEN = 1;
    private static final int KIND_NAME = 2;
    private static final int KIND_NUMBER = 3;
    private static final int KIND_STOP = 4;
    private static final int FIRST_WORD = 300;
    private static final int WORD_UNDER = 300;
    private static final int WORD_CONST = 301;
    private static final int WORD_RULE = 302;
    private static final int WORD_TABLE = 303;
    private static final int WORD_CHECK = 304;
    private static final int WORD_TRY = 305;
    private static final int WORD_ELSE = 306;
    private static final int WORD_AT = 307;
    private static final int WORD_TONS = 308;
    private static final int WORD_CARGO = 309;
    private static final int WORD_LOCK = 310;
    private static final int WORD_DAY = 311;
    private static final int WORDS = 12;
    private static final String WORD_TEXT = "under const rule table check try else at tons cargo lock day ";
    private static final String SIGNS = "{}[]();:=<>+-*/%?.";
    private static final int LONGEST_NAME = 8;
    private static final int LONGEST_NUMBER = 9;

    // A reference is a packed name (8 letters of 5 bits) with the index of its year above it.
    private static final int LETTER_BITS = 5;
    private static final int NAME_BITS = 40;
    private static final long NAME_MASK = (1L << NAME_BITS) - 1;

    private static final int IN_NOTHING = 0;
    private static final int IN_TABLE = 1;
    private static final int IN_RULE = 2;

    private static final int CODE_ROOM = 1024;
    private static final int OP_PUSH = 0;
    private static final int OP_AT = 1;
    private static final int OP_SETTING = 2;
    private static final int OP_VALUE = 3;
    private static final int OP_ENTRY = 4;
    private static final int OP_NEGATE = 5;
    private static final int OP_ADD = 6;
    private static final int OP_SUBTRACT = 7;
    private static final int OP_MULTIPLY = 8;
    private static final int OP_DIVIDE = 9;
    private static final int OP_REST = 10;
    private static final int OP_EQUAL = 11;
    private static final int OP_LESS = 12;
    private static final int OP_MORE = 13;
    private static final int OP_JUMP = 14;
    private static final int OP_BRANCH = 15;
    private static final int OP_UNDER = 16;
    private static final int OP_TABLE = 17;
    private static final int OP_STORE = 18;
    private static final int OP_CHECK = 19;
    private static final int OP_RETURN = 20;
    private static final int OP_FINISH = 21;

    private static final int SORT_CONST = 0;
    private static final int SORT_TABLE = 1;
    private static final int SORT_RULE = 2;
    // A place found is year * FOUND_STEP + index in that year's sheet.
    private static final int FOUND_STEP = 8;

    private final Tape tape;
    private final Reader reader;
    private final Editions editions;
    private final Settler settler;
    private final Machine machine;
    private final Voyage[] voyages;
    private int voyageCount;
    private int booked;
    private int failed;

    public TollAlmanac() {
        tape = new Tape();
        reader = new Reader(tape);
        editions = new Editions();
        settler = new Settler(editions);
        machine = new Machine(editions);
        voyages = new Voyage[VOYAGES];
        voyageCount = 0;
        booked = 0;
        failed = 0;
    }

    public int feed(int a, int b, int c, int d, int e) {
        if (tape.size + FEED_BYTES > TAPE_ROOM) {
            return NONE;
        }
        tape.put(a);
        tape.put(b);
        tape.put(c);
        tape.put(d);
        tape.put(e);
        return tape.size;
    }

    public int end(int n) {
        if (n < 0 || n > tape.size) {
            return NONE;
        }
        tape.size = n;
        return n;
    }

    public int sheet(int year) {
        int index = yearIndex(year);
        if (index == NONE) {
            return -2;
        }
        Sheet read = reader.read(index);
        tape.size = 0;
        if (read == null) {
            return NONE;
        }
        editions.change(index, read);
        return read.steps;
    }

    public int fault(int what) {
        switch (what) {
            case 0:
                return reader.fault;
            case 1:
                return reader.faultPlace;
            default:
                return NONE;
        }
    }

    public boolean forget(int year) {
        int index = yearIndex(year);
        if (index == NONE || editions.sheets[index] == null) {
            return false;
        }
        editions.change(index, null);
        return true;
    }

    public int issue() {
        int made = editions.renew();
        settler.settleAll();
        return made;
    }

    public int state(int year, int what) {
        int index = yearIndex(year);
        if (index == NONE) {
            return NONE;
        }
        Tariff tariff = editions.tariffs[index];
        switch (what) {
            case 0:
                return tariff.phase;
            case 1:
                return tariff.edition;
            case 2:
                return tariff.thrown;
            case 3:
                return tariff.halves;
            case 7:
                return (editions.changed >>> index) & 1;
            default:
                return sheetState(editions.sheets[index], what);
        }
    }

    public boolean leans(int year, int other) {
        int index = yearIndex(year);
        int otherIndex = yearIndex(other);
        if (index == NONE || otherIndex == NONE) {
            return false;
        }
        Sheet read = editions.sheets[index];
        return read != null && ((read.leaning >>> otherIndex) & 1) == 1;
    }

    public long constant(int year, int k) {
        int index = yearIndex(year);
        if (index == NONE) {
            return NO_VALUE;
        }
        return editions.tariffs[index].valueOf(k);
    }

    public long entry(int year, int k, int i) {
        int index = yearIndex(year);
        if (index == NONE || !editions.tariffs[index].hasEntry(k, i)) {
            return NO_VALUE;
        }
        return editions.tariffs[index].entries[k * ENTRIES + i];
    }

    public int need(int year) {
        int index = yearIndex(year);
        if (index == NONE) {
            return NONE;
        }
        return machine.summon(index);
    }

    public int started(int i) {
        if (i < 0 || i >= KEPT_STARTS || i >= machine.starts) {
            return NONE;
        }
        return FIRST_YEAR + machine.startRow[i];
    }

    public int voyage(int tons, int cargo) {
        boolean right = tons >= 0 && tons <= 100000 && cargo >= 0 && cargo <= 9;
        if (!right || voyageCount >= VOYAGES) {
            return NONE;
        }
        voyages[voyageCount] = new Voyage(tons, cargo);
        voyageCount++;
        return voyageCount - 1;
    }

    public int lock(int voyage, int lock, int year, int day) {
        Voyage found = voyageOf(voyage);
        int index = yearIndex(year);
        boolean right = lock >= 0 && lock <= 99 && index != NONE && day >= 1 && day <= 366;
        if (found == null || !right || found.locks >= LOCKS) {
            return NONE;
        }
        found.addLock(lock, index, day);
        return found.locks;
    }

    public int bill(int voyage) {
        Voyage found = voyageOf(voyage);
        if (found == null || found.locks == 0) {
            return NONE;
        }
        int thrown = machine.charge(found);
        if (thrown == 0) {
            booked++;
        } else {
            failed++;
        }
        return thrown;
    }

    public long line(int voyage, int what) {
        Voyage found = voyageOf(voyage);
        if (found == null || what < 0 || what > found.billed || found.billed == 0) {
            return NO_VALUE;
        }
        return what == 0 ? found.sum : found.lines[what - 1];
    }

    public int count(int what) {
        switch (what) {
            case 0:
                return editions.edition;
            case 1:
                return machine.starts;
            case 2:
                return booked;
            case 3:
                return failed;
            case 4:
                return voyageCount;
            default:
                return NONE;
        }
    }

    private Voyage voyageOf(int number) {
        return number >= 0 && number < voyageCount ? voyages[number] : null;
    }

    private static int yearIndex(long year) {
        return year >= FIRST_YEAR && year < FIRST_YEAR + YEARS ? (int) year - FIRST_YEAR : NONE;
    }

    private static int sheetState(Sheet read, int what) {
        switch (what) {
            case 4:
                return read == null ? 0 : read.constNames.length;
            case 5:
                return read == null ? 0 : read.tableNames.length;
            case 6:
                return read == null || read.under == NONE ? NONE : FIRST_YEAR + read.under;
            default:
                return NONE;
        }
    }

    private static int positionOf(long[] row, int size, long sought) {
        for (int i = 0; i < size && i < row.length; i++) {
            if (row[i] == sought) {
                return i;
            }
        }
        return NONE;
    }

    /** The bytes that were fed, and the tokens that they are cut into. */
    private static final class Tape {
        final char[] bytes;
        int size;
        final int[] kinds;
        final int[] places;
        final long[] contents;
        int tokens;
        final long[] words;

        Tape() {
            bytes = new char[TAPE_ROOM];
            kinds = new int[TAPE_ROOM + 1];
            places = new int[TAPE_ROOM + 1];
            contents = new long[TAPE_ROOM + 1];
            words = packedWords();
            size = 0;
            tokens = 0;
        }

        private static long[] packedWords() {
            long[] packed = new long[WORDS];
            int word = 0;
            for (int i = 0; i < WORD_TEXT.length() && word < WORDS; i++) {
                char letter = WORD_TEXT.charAt(i);
                if (letter == ' ') {
                    word++;
                } else {
                    packed[word] = withLetter(packed[word], letter);
                }
            }
            return packed;
        }

        private static long withLetter(long name, char letter) {
            return (name << LETTER_BITS) | (letter - 'a' + 1);
        }

        void put(int number) {
            for (int shift = 24; shift >= 0 && size < bytes.length; shift -= 8) {
                bytes[size] = (char) ((number >>> shift) & 255);
                size++;
            }
        }

        void cut() {
            tokens = 0;
            int place = 0;
            for (int turn = 0; turn < TAPE_ROOM && place < size; turn++) {
                place = cutOne(place);
            }
            add(KIND_END, size, 0);
        }

        private int cutOne(int place) {
            char first = bytes[place];
            if (first == ' ' || first == '\n') {
                return place + 1;
            }
            int stop = rowEnd(place, 'a', 'z');
            if (stop > place) {
                addName(place, stop);
                return stop;
            }
            stop = rowEnd(place, '0', '9');
            if (stop > place) {
                addNumber(place, stop);
                return stop;
            }
            add(SIGNS.indexOf(first) >= 0 ? first : KIND_BROKEN, place, 0);
            return place + 1;
        }

        private int rowEnd(int place, char low, char high) {
            int stop = place;
            while (stop < size && bytes[stop] >= low && bytes[stop] <= high) {
                stop++;
            }
            return stop;
        }

        private void addName(int place, int stop) {
            if (stop - place > LONGEST_NAME) {
                add(KIND_BROKEN, place, 0);
                return;
            }
            long name = 0;
            for (int i = place; i < stop; i++) {
                name = withLetter(name, bytes[i]);
            }
            int word = positionOf(words, WORDS, name);
            add(word == NONE ? KIND_NAME : FIRST_WORD + word, place, name);
        }

        private void addNumber(int place, int stop) {
            if (stop - place > LONGEST_NUMBER) {
                add(KIND_BROKEN, place, 0);
                return;
            }
            long number = 0;
            for (int i = place; i < stop; i++) {
                number = number * 10 + (bytes[i] - '0');
            }
            add(KIND_NUMBER, place, number);
        }

        private void add(int kind, int place, long content) {
            if (tokens < kinds.length) {
                kinds[tokens] = kind;
                places[tokens] = place;
                contents[tokens] = content;
                tokens++;
            }
        }
    }

    /** Reads the tape as a sheet, by the grammar, and tells the fault that comes first. */
    private static final class Reader {
        final Tape tape;
        final Draft draft;
        int cursor;
        int ownYear;
        int context;
        boolean broken;
        int fault;
        int faultPlace;

        Reader(Tape tape) {
            this.tape = tape;
            draft = new Draft();
            fault = 0;
            faultPlace = NONE;
        }

        /** The sheet, or null if there is a fault. */
        Sheet read(int year) {
            tape.cut();
            draft.clear();
            cursor = 0;
            ownYear = year;
            context = IN_NOTHING;
            broken = false;
            fault = 0;
            faultPlace = NONE;
            readUnder();
            for (int part = 0; part <= TAPE_ROOM && kind() != KIND_END && !broken; part++) {
                if (kind() == WORD_CONST) {
                    readConst();
                } else if (kind() == WORD_RULE) {
                    readRule();
                } else {
                    readStep(0);
                }
            }
            draft.emit(OP_FINISH, 0);
            return fault == 0 ? new Sheet(draft) : null;
        }

        // Once the text is broken nothing fits any more, so that all reading comes to its end.
        private int kind() {
            return broken || cursor >= tape.tokens ? KIND_STOP : tape.kinds[cursor];
        }

        private int place() {
            return cursor < tape.tokens ? tape.places[cursor] : tape.size;
        }

        private long content() {
            return cursor < tape.tokens ? tape.contents[cursor] : 0;
        }

        private void reject() {
            if (!broken) {
                broken = true;
                fault = FAULT_TEXT;
                faultPlace = cursor < tape.tokens ? tape.places[cursor] : tape.size;
            }
        }

        // Faults are met in the order of their places, so the first one is the one to tell.
        private void note(int which, int where) {
            if (fault == 0) {
                fault = which;
                faultPlace = where;
            }
        }

        private boolean take(int wanted) {
            if (kind() != wanted) {
                reject();
                return false;
            }
            cursor++;
            return true;
        }

        private void readUnder() {
            if (kind() != WORD_UNDER) {
                return;
            }
            cursor++;
            int where = place();
            long number = content();
            if (take(KIND_NUMBER)) {
                draft.under = leanOn(number, where);
                draft.emit(OP_UNDER, draft.under);
                take(';');
            }
        }

        private int leanOn(long number, int where) {
            int index = yearIndex(number);
            if (index == NONE || index == ownYear) {
                note(FAULT_YEAR, where);
                return ownYear;
            }
            draft.leaning |= 1 << index;
            return index;
        }

        private long takeNewName() {
            int where = place();
            long name = content();
            if (take(KIND_NAME) && draft.hasName(name)) {
                note(FAULT_TWICE, where);
            }
            return name;
        }

        private long takeNumber(int low, int high) {
            int where = place();
            long number = content();
            if (take(KIND_NUMBER) && (number < low || number > high)) {
                note(FAULT_NUMBER, where);
            }
            return number;
        }

        private void readConst() {
            if (draft.consts >= CONSTS) {
                note(FAULT_TOO_MANY, place());
            }
            cursor++;
            long name = takeNewName();
            take('=');
            // A const stands among the steps but is none: a start jumps over its code.
            int jump = draft.emit(OP_JUMP, 0);
            draft.addConst(name);
            readConstantSum();
            draft.emit(OP_RETURN, 0);
            draft.landHere(jump);
            take(';');
        }

        private void readConstantSum() {
            int op = NONE;
            for (int term = 0; term <= TAPE_ROOM; term++) {
                readConstantOperand();
                for (int turn = 0; turn <= TAPE_ROOM && kind() == '*'; turn++) {
                    cursor++;
                    readConstantOperand();
                    draft.emit(OP_MULTIPLY, 0);
                }
                if (op != NONE) {
                    draft.emit(op, 0);
                }
                if (kind() != '+' && kind() != '-') {
                    return;
                }
                op = kind() == '+' ? OP_ADD : OP_SUBTRACT;
                cursor++;
            }
        }

        private void readConstantOperand() {
            boolean minus = takeMinus();
            if (kind() == KIND_NUMBER) {
                int year = readNumberOrYear();
                if (year != NONE) {
                    readConstName(year);
                }
            } else {
                readConstName(ownYear);
            }
            if (minus) {
                draft.emit(OP_NEGATE, 0);
            }
        }

        private void readConstName(int year) {
            long name = content();
            if (take(KIND_NAME)) {
                draft.emitReference(OP_VALUE, year, name);
            }
        }

        private boolean takeMinus() {
            if (kind() != '-') {
                return false;
            }
            cursor++;
            return true;
        }

        /** The year ahead of a point; NONE if the number was one by itself. */
        private int readNumberOrYear() {
            int where = place();
            long number = content();
            cursor++;
            if (kind() != '.') {
                draft.emit(OP_PUSH, number);
                return NONE;
            }
            cursor++;
            return leanOn(number, where);
        }

        private void readRule() {
            if (draft.rule != NONE) {
                note(FAULT_TWICE, place());
            }
            cursor++;
            int jump = draft.emit(OP_JUMP, 0);
            draft.rule = draft.size;
            context = IN_RULE;
            readChoice(1);
            context = IN_NOTHING;
            draft.emit(OP_RETURN, 0);
            draft.landHere(jump);
            take(';');
        }

        private void readStep(int tries) {
            int first = kind();
            if (first != WORD_TABLE && first != WORD_CHECK && (first != WORD_TRY || tries >= OPEN_TRIES)) {
                reject();
                return;
            }
            draft.steps++;
            if (draft.steps > STEPS) {
                note(FAULT_TOO_MANY, place());
            }
            if (first == WORD_TABLE) {
                readTable();
            } else if (first == WORD_CHECK) {
                readCheck();
            } else {
                readTry(tries + 1);
            }
        }

        private void readTable() {
            int table = draft.tables;
            if (table >= TABLES) {
                note(FAULT_TOO_MANY, place());
            }
            cursor++;
            long name = takeNewName();
            long entries = takeNumber(1, ENTRIES);
            take('=');
            draft.addTable(name, entries);
            draft.emit(OP_TABLE, 0);
            int start = draft.size;
            context = IN_TABLE;
            readChoice(1);
            context = IN_NOTHING;
            draft.emit(OP_STORE, (long) start * FOUND_STEP + table);
            take(';');
        }

        private void readCheck() {
            cursor++;
            readChoice(1);
            take(':');
            long number = takeNumber(1, LAST_CHECK);
            draft.emit(OP_CHECK, number);
            take(';');
        }

        private void readTry(int tries) {
            cursor++;
            take('{');
            int handler = draft.openTry();
            readSteps(tries);
            take('}');
            int jump = draft.emit(OP_JUMP, 0);
            draft.closeTry(handler);
            take(WORD_ELSE);
            take('{');
            readSteps(tries);
            take('}');
            draft.landHere(jump);
        }

        private void readSteps(int tries) {
            for (int turn = 0; turn <= TAPE_ROOM && kind() != '}' && !broken; turn++) {
                readStep(tries);
            }
        }

        private void readChoice(int open) {
            if (open > OPEN_CHOICES) {
                reject();
                return;
            }
            readSum(open);
            int op = comparison(kind());
            if (op != NONE) {
                cursor++;
                readSum(open);
                draft.emit(op, 0);
            }
            if (kind() != '?') {
                return;
            }
            cursor++;
            int branch = draft.emit(OP_BRANCH, 0);
            readChoice(open + 1);
            take(':');
            int jump = draft.emit(OP_JUMP, 0);
            draft.landHere(branch);
            readChoice(open + 1);
            draft.landHere(jump);
        }

        private static int comparison(int sign) {
            switch (sign) {
                case '=':
                    return OP_EQUAL;
                case '<':
                    return OP_LESS;
                case '>':
                    return OP_MORE;
                default:
                    return NONE;
            }
        }

        private void readSum(int open) {
            readProduct(open);
            for (int turn = 0; turn < TAPE_ROOM && (kind() == '+' || kind() == '-'); turn++) {
                int op = kind() == '+' ? OP_ADD : OP_SUBTRACT;
                cursor++;
                readProduct(open);
                draft.emit(op, 0);
            }
        }

        private void readProduct(int open) {
            readOperand(open);
            int op = factor(kind());
            for (int turn = 0; turn < TAPE_ROOM && op != NONE; turn++) {
                cursor++;
                readOperand(open);
                draft.emit(op, 0);
                op = factor(kind());
            }
        }

        private static int factor(int sign) {
            switch (sign) {
                case '*':
                    return OP_MULTIPLY;
                case '/':
                    return OP_DIVIDE;
                case '%':
                    return OP_REST;
                default:
                    return NONE;
            }
        }

        private void readOperand(int open) {
            boolean minus = takeMinus();
            int first = kind();
            if (first == KIND_NUMBER) {
                int year = readNumberOrYear();
                if (year != NONE) {
                    readReference(year, open);
                }
            } else if (first == '(') {
                cursor++;
                readChoice(open + 1);
                take(')');
            } else if (first >= WORD_AT && first <= WORD_DAY) {
                readSetting(first);
            } else {
                readReference(ownYear, open);
            }
            if (minus) {
                draft.emit(OP_NEGATE, 0);
            }
        }

        private void readSetting(int word) {
            if (context != (word == WORD_AT ? IN_TABLE : IN_RULE)) {
                note(FAULT_WORD, place());
            }
            cursor++;
            if (word == WORD_AT) {
                draft.emit(OP_AT, 0);
            } else {
                draft.emit(OP_SETTING, word - WORD_TONS);
            }
        }

        private void readReference(int year, int open) {
            long name = content();
            if (!take(KIND_NAME)) {
                return;
            }
            if (kind() != '[') {
                draft.emitReference(OP_VALUE, year, name);
                return;
            }
            cursor++;
            readChoice(open + 1);
            take(']');
            draft.emitReference(OP_ENTRY, year, name);
        }
    }

    /** What has been read of a sheet so far; its rows are used again for each text. */
    private static final class Draft {
        int under;
        int leaning;
        int steps;
        int rule;
        final int[] ops;
        final long[] args;
        int size;
        final long[] constNames;
        final int[] constStarts;
        int consts;
        final long[] tableNames;
        final int[] tableSizes;
        int tables;
        final int[] tryStarts;
        final int[] tryEnds;
        final int[] elseStarts;
        int tries;

        Draft() {
            ops = new int[CODE_ROOM];
            args = new long[CODE_ROOM];
            constNames = new long[CONSTS];
            constStarts = new int[CONSTS];
            tableNames = new long[TABLES];
            tableSizes = new int[TABLES];
            tryStarts = new int[STEPS];
            tryEnds = new int[STEPS];
            elseStarts = new int[STEPS];
        }

        void clear() {
            under = NONE;
            leaning = 0;
            steps = 0;
            rule = NONE;
            size = 0;
            consts = 0;
            tables = 0;
            tries = 0;
        }

        int emit(int op, long arg) {
            if (size >= ops.length) {
                return NONE;
            }
            ops[size] = op;
            args[size] = arg;
            size++;
            return size - 1;
        }

        void emitReference(int op, int year, long name) {
            emit(op, ((long) year << NAME_BITS) | name);
        }

        void landHere(int jump) {
            if (jump >= 0 && jump < size) {
                args[jump] = size;
            }
        }

        boolean hasName(long name) {
            return positionOf(constNames, consts, name) != NONE || positionOf(tableNames, tables, name) != NONE;
        }

        void addConst(long name) {
            if (consts < CONSTS) {
                constNames[consts] = name;
                constStarts[consts] = size;
                consts++;
            }
        }

        void addTable(long name, long entries) {
            if (tables < TABLES) {
                tableNames[tables] = name;
                tableSizes[tables] = (int) entries;
                tables++;
            }
        }

        int openTry() {
            if (tries >= STEPS) {
                return NONE;
            }
            tryStarts[tries] = size;
            tries++;
            return tries - 1;
        }

        void closeTry(int handler) {
            if (handler >= 0 && handler < tries) {
                tryEnds[handler] = size;
                elseStarts[handler] = size;
            }
        }
    }

    /** A sheet without a fault; it is never changed, so that classes may share it. */
    private static final class Sheet {
        final int under;
        final int leaning;
        final int steps;
        final int rule;
        final int[] ops;
        final long[] args;
        final long[] constNames;
        final int[] constStarts;
        final long[] tableNames;
        final int[] tableSizes;
        final int[] tryStarts;
        final int[] tryEnds;
        final int[] elseStarts;

        Sheet(Draft draft) {
            under = draft.under;
            leaning = draft.leaning;
            steps = draft.steps;
            rule = draft.rule;
            ops = Arrays.copyOf(draft.ops, draft.size);
            args = Arrays.copyOf(draft.args, draft.size);
            constNames = Arrays.copyOf(draft.constNames, draft.consts);
            constStarts = Arrays.copyOf(draft.constStarts, draft.consts);
            tableNames = Arrays.copyOf(draft.tableNames, draft.tables);
            tableSizes = Arrays.copyOf(draft.tableSizes, draft.tables);
            tryStarts = Arrays.copyOf(draft.tryStarts, draft.tries);
            tryEnds = Arrays.copyOf(draft.tryEnds, draft.tries);
            elseStarts = Arrays.copyOf(draft.elseStarts, draft.tries);
        }

        int indexOf(int sort, long name) {
            if (sort == SORT_RULE) {
                return rule == NONE ? NONE : 0;
            }
            long[] names = sort == SORT_CONST ? constNames : tableNames;
            for (int i = 0; i < names.length; i++) {
                if (names[i] == name) {
                    return i;
                }
            }
            return NONE;
        }

        /** Where what is thrown at a place is caught; of tries in one another the inner one opened later. */
        int catchAt(int place) {
            for (int i = tryStarts.length - 1; i >= 0; i--) {
                if (tryStarts[i] <= place && place < tryEnds[i]) {
                    return elseStarts[i];
                }
            }
            return NONE;
        }
    }

    /** The class of a year; without a sheet there is none. */
    private static final class Tariff {
        static final int UNKNOWN = 0;
        static final int OPEN = 1;
        static final int VALUED = 2;
        static final int VOID = 3;

        Sheet sheet;
        int phase;
        int edition;
        int thrown;
        int halves;
        final int[] marks;
        final long[] values;
        final long[] entries;

        Tariff() {
            phase = NO_CLASS;
            marks = new int[CONSTS];
            values = new long[CONSTS];
            entries = new long[TABLES * ENTRIES];
        }

        void make(Sheet text, int number) {
            sheet = text;
            phase = text == null ? NO_CLASS : NOT_STARTED;
            edition = text == null ? 0 : number;
            thrown = 0;
            halves = 0;
            Arrays.fill(marks, UNKNOWN);
            Arrays.fill(entries, 0L);
        }

        long valueOf(int k) {
            if (sheet == null || k < 0 || k >= sheet.constNames.length || marks[k] != VALUED) {
                return NO_VALUE;
            }
            return values[k];
        }

        boolean hasEntry(int table, long i) {
            return sheet != null && table >= 0 && table < sheet.tableSizes.length
                && i >= 0 && i < sheet.tableSizes[table];
        }
    }

    /** The sheets as they are, and the classes that the editions made of them. */
    private static final class Editions {
        final Sheet[] sheets;
        final Tariff[] tariffs;
        int changed;
        int edition;

        Editions() {
            sheets = new Sheet[YEARS];
            tariffs = new Tariff[YEARS];
            for (int year = 0; year < YEARS; year++) {
                tariffs[year] = new Tariff();
            }
            changed = 0;
            edition = 0;
        }

        void change(int year, Sheet text) {
            sheets[year] = text;
            changed |= 1 << year;
        }

        int renew() {
            int touched = touchedYears();
            int made = 0;
            edition++;
            for (int year = 0; year < YEARS; year++) {
                if (((touched >>> year) & 1) == 1) {
                    tariffs[year].make(sheets[year], edition);
                    made += sheets[year] == null ? 0 : 1;
                }
            }
            changed = 0;
            return made;
        }

        // A round that touches no further year is the last, so YEARS rounds reach all.
        private int touchedYears() {
            int touched = changed;
            int before = 0;
            for (int round = 0; round < YEARS && touched != before; round++) {
                before = touched;
                for (int year = 0; year < YEARS; year++) {
                    if (sheets[year] != null && (sheets[year].leaning & touched) != 0) {
                        touched |= 1 << year;
                    }
                }
            }
            return touched;
        }

        /** Looks along the chain of sheets, each under the next; NONE if no class in it has such a one. */
        int find(int sort, long reference) {
            long name = reference & NAME_MASK;
            int year = (int) (reference >>> NAME_BITS);
            for (int link = 0; link < YEARS && year >= 0 && year < YEARS; link++) {
                Sheet text = tariffs[year].sheet;
                if (text == null) {
                    return NONE;
                }
                int index = text.indexOf(sort, name);
                if (index != NONE) {
                    return year * FOUND_STEP + index;
                }
                year = text.under;
            }
            return NONE;
        }
    }

    /** Gives consts their values, each behind those that it needs. */
    private static final class Settler {
        static final int DONE = -1;
        static final int LOST = -2;
        static final int ROOM = 4;

        final Editions editions;
        final int[] open;
        int depth;
        final long[] stack;
        int top;

        Settler(Editions editions) {
            this.editions = editions;
            open = new int[YEARS * FOUND_STEP];
            stack = new long[ROOM];
        }

        void settleAll() {
            for (int year = 0; year < YEARS; year++) {
                Tariff tariff = editions.tariffs[year];
                int consts = tariff.sheet == null ? 0 : tariff.sheet.constNames.length;
                for (int k = 0; k < consts; k++) {
                    if (tariff.marks[k] == Tariff.UNKNOWN) {
                        settle(year * FOUND_STEP + k);
                    }
                }
            }
        }

        private void settle(int first) {
            depth = 0;
            push(first);
            for (int turn = 0; turn < TURNS && depth > 0; turn++) {
                int id = open[depth - 1];
                int needed = evaluate(id);
                if (needed == DONE) {
                    editions.tariffs[id / FOUND_STEP].values[id % FOUND_STEP] = stack[0];
                    mark(id, Tariff.VALUED);
                    depth--;
                } else if (needed == LOST || markOf(needed) == Tariff.OPEN) {
                    loseOpen();
                } else {
                    push(needed);
                }
            }
        }

        private void push(int id) {
            if (depth < open.length) {
                open[depth] = id;
                depth++;
                mark(id, Tariff.OPEN);
            }
        }

        // Each open const needs the one opened next, so none of them can have a value.
        private void loseOpen() {
            for (int i = 0; i < depth; i++) {
                mark(open[i], Tariff.VOID);
            }
            depth = 0;
        }

        private int markOf(int id) {
            return editions.tariffs[id / FOUND_STEP].marks[id % FOUND_STEP];
        }

        private void mark(int id, int mark) {
            editions.tariffs[id / FOUND_STEP].marks[id % FOUND_STEP] = mark;
        }

        /** DONE with the value on the stack, LOST, or the const that must be settled first. */
        private int evaluate(int id) {
            Sheet text = editions.tariffs[id / FOUND_STEP].sheet;
            if (text == null || id % FOUND_STEP >= text.constStarts.length) {
                return LOST;
            }
            top = 0;
            for (int pc = text.constStarts[id % FOUND_STEP]; pc < text.ops.length; pc++) {
                int op = text.ops[pc];
                if (op == OP_RETURN) {
                    return top == 1 ? DONE : LOST;
                }
                int outcome = op == OP_VALUE ? refer(text.args[pc]) : calculate(op, text.args[pc]);
                if (outcome != DONE) {
                    return outcome;
                }
            }
            return LOST;
        }

        private int refer(long reference) {
            int found = editions.find(SORT_CONST, reference);
            if (found == NONE || markOf(found) == Tariff.VOID) {
                return LOST;
            }
            if (markOf(found) != Tariff.VALUED) {
                return found;
            }
            return put(editions.tariffs[found / FOUND_STEP].values[found % FOUND_STEP]);
        }

        private int put(long value) {
            if (top >= ROOM || value > VALUE_LIMIT || value < -VALUE_LIMIT) {
                return LOST;
            }
            stack[top] = value;
            top++;
            return DONE;
        }

        private int calculate(int op, long arg) {
            if (op == OP_PUSH) {
                return put(arg);
            }
            if (op == OP_NEGATE && top >= 1) {
                top--;
                return put(-stack[top]);
            }
            if (top < 2) {
                return LOST;
            }
            top -= 2;
            long left = stack[top];
            long right = stack[top + 1];
            switch (op) {
                case OP_ADD:
                    return put(left + right);
                case OP_SUBTRACT:
                    return put(left - right);
                case OP_MULTIPLY:
                    return productFits(left, right) ? put(left * right) : LOST;
                default:
                    return LOST;
            }
        }

        private static boolean productFits(long left, long right) {
            return left == 0 || Math.abs(right) <= VALUE_LIMIT / Math.abs(left);
        }
    }

    /** A start that is going on, or a rule that is being worked. */
    private static final class Frame {
        int year;
        Sheet sheet;
        int pc;
        int base;
        int at;
        boolean starting;
    }

    /** Starts classes and works expressions, with a row of frames of its own instead of recursion. */
    private static final class Machine {
        static final int PASSED = 0;
        static final int STAYS = -1;
        // An E within 12 others holds at most three numbers a level.
        static final int FRAME_VALUES = 40;
        static final int FRAMES = YEARS + 1;

        final Editions editions;
        final Frame[] frames;
        int depth;
        final long[] stack;
        int top;
        final long[] settings;
        long result;
        final int[] startRow;
        int starts;

        Machine(Editions editions) {
            this.editions = editions;
            frames = new Frame[FRAMES];
            for (int i = 0; i < FRAMES; i++) {
                frames[i] = new Frame();
            }
            stack = new long[FRAMES * FRAME_VALUES];
            settings = new long[WORD_DAY - WORD_TONS + 1];
            startRow = new int[KEPT_STARTS];
            starts = 0;
        }

        /** Needs a year from outside of all starts: 0, or what is thrown. */
        int summon(int year) {
            depth = 0;
            top = 0;
            int outcome = demand(year);
            return outcome == STAYS ? run() : outcome;
        }

        /** Bills a voyage: 0, or what is thrown. */
        int charge(Voyage voyage) {
            voyage.billed = 0;
            long sum = 0;
            for (int i = 0; i < voyage.locks && i < LOCKS; i++) {
                int thrown = summon(voyage.years[i]);
                if (thrown == 0) {
                    prepare(voyage, i);
                    thrown = workRule(voyage.years[i]);
                }
                if (thrown != 0) {
                    return thrown;
                }
                voyage.lines[i] = result;
                sum += result;
            }
            voyage.sum = sum;
            voyage.billed = voyage.locks;
            return 0;
        }

        private void prepare(Voyage voyage, int lock) {
            settings[0] = voyage.tons;
            settings[WORD_CARGO - WORD_TONS] = voyage.cargo;
            settings[WORD_LOCK - WORD_TONS] = voyage.numbers[lock];
            settings[WORD_DAY - WORD_TONS] = voyage.days[lock];
        }

        private int workRule(int year) {
            int found = editions.find(SORT_RULE, (long) year << NAME_BITS);
            if (found == NONE) {
                return THROWN_NAME;
            }
            Sheet text = editions.tariffs[found / FOUND_STEP].sheet;
            if (text == null) {
                return THROWN_NAME;
            }
            depth = 0;
            top = 0;
            result = 0;
            open(found / FOUND_STEP, text, text.rule, false);
            return run();
        }

        private void open(int year, Sheet text, int pc, boolean starting) {
            if (depth >= FRAMES) {
                return;
            }
            Frame frame = frames[depth];
            frame.year = year;
            frame.sheet = text;
            frame.pc = pc;
            frame.base = top;
            frame.at = 0;
            frame.starting = starting;
            depth++;
        }

        /** PASSED if the year is there, STAYS if its start was opened, else what is thrown. */
        private int demand(int year) {
            if (year < 0 || year >= YEARS || editions.tariffs[year].sheet == null) {
                return THROWN_NO_CLASS;
            }
            Tariff tariff = editions.tariffs[year];
            if (tariff.phase == WITHDRAWN) {
                return THROWN_WITHDRAWN;
            }
            if (tariff.phase != NOT_STARTED) {
                return PASSED;
            }
            tariff.phase = STARTING;
            if (starts < KEPT_STARTS) {
                startRow[starts] = year;
            }
            starts++;
            open(year, tariff.sheet, 0, true);
            return STAYS;
        }

        /** Goes on until no frame is open: 0, or what was thrown out of the first. */
        private int run() {
            int escaped = 0;
            for (int turn = 0; turn < TURNS && depth > 0; turn++) {
                Frame frame = frames[depth - 1];
                int outcome = advance(frame);
                if (outcome == PASSED) {
                    frame.pc++;
                } else if (outcome != STAYS) {
                    escaped = unwind(outcome);
                }
            }
            return escaped;
        }

        /** 0 if it was caught. */
        private int unwind(int thrown) {
            for (int turn = 0; turn < FRAMES && depth > 0; turn++) {
                Frame frame = frames[depth - 1];
                top = frame.base;
                int caught = frame.starting ? frame.sheet.catchAt(frame.pc) : NONE;
                if (caught != NONE) {
                    frame.pc = caught;
                    return 0;
                }
                if (frame.starting) {
                    editions.tariffs[frame.year].phase = WITHDRAWN;
                    editions.tariffs[frame.year].thrown = thrown;
                }
                depth--;
            }
            return thrown;
        }

        // An instruction that needs a year stays until that has started, and is done again then.
        private int advance(Frame frame) {
            if (frame.pc < 0 || frame.pc >= frame.sheet.ops.length) {
                return finish(frame);
            }
            int op = frame.sheet.ops[frame.pc];
            long arg = frame.sheet.args[frame.pc];
            switch (op) {
                case OP_PUSH:
                    return push(arg);
                case OP_AT:
                    return push(frame.at);
                case OP_SETTING:
                    return push(arg >= 0 && arg < settings.length ? settings[(int) arg] : 0);
                case OP_VALUE:
                    return readConst(arg);
                case OP_ENTRY:
                    return readEntry(frame, arg);
                case OP_NEGATE:
                    return push(-pop());
                case OP_JUMP:
                    frame.pc = (int) arg;
                    return STAYS;
                case OP_BRANCH:
                    frame.pc = pop() == 0 ? (int) arg : frame.pc + 1;
                    return STAYS;
                case OP_UNDER:
                    return demand((int) arg);
                case OP_TABLE:
                    frame.at = 0;
                    return PASSED;
                case OP_STORE:
                    return storeEntry(frame, (int) arg);
                case OP_CHECK:
                    return pop() == 0 ? (int) arg : PASSED;
                case OP_RETURN:
                    result = pop();
                    depth--;
                    return STAYS;
                case OP_FINISH:
                    return finish(frame);
                default:
                    return calculate(op);
            }
        }

        private int push(long value) {
            if (top < stack.length) {
                stack[top] = value;
                top++;
            }
            return PASSED;
        }

        private long pop() {
            if (top <= 0) {
                return 0;
            }
            top--;
            return stack[top];
        }

        private int finish(Frame frame) {
            if (frame.starting) {
                editions.tariffs[frame.year].phase = STARTED;
            }
            depth--;
            return STAYS;
        }

        private int calculate(int op) {
            long right = pop();
            long left = pop();
            switch (op) {
                case OP_ADD:
                    return push(left + right);
                case OP_SUBTRACT:
                    return push(left - right);
                case OP_MULTIPLY:
                    return push(left * right);
                case OP_DIVIDE:
                    return right == 0 ? THROWN_DIVISOR : push(left / right);
                case OP_REST:
                    return right == 0 ? THROWN_DIVISOR : push(left % right);
                case OP_EQUAL:
                    return push(left == right ? 1 : 0);
                case OP_LESS:
                    return push(left < right ? 1 : 0);
                default:
                    return push(left > right ? 1 : 0);
            }
        }

        private int readConst(long reference) {
            int found = editions.find(SORT_CONST, reference);
            if (found == NONE) {
                return THROWN_NAME;
            }
            long value = editions.tariffs[found / FOUND_STEP].valueOf(found % FOUND_STEP);
            return value == NO_VALUE ? THROWN_NAME : push(value);
        }

        private int readEntry(Frame frame, long reference) {
            int named = (int) (reference >>> NAME_BITS);
            int outcome = named == frame.year ? PASSED : demand(named);
            if (outcome != PASSED) {
                return outcome;
            }
            int found = editions.find(SORT_TABLE, reference);
            if (found == NONE) {
                return THROWN_NAME;
            }
            int holder = found / FOUND_STEP;
            outcome = holder == frame.year ? PASSED : demand(holder);
            if (outcome != PASSED) {
                return outcome;
            }
            return pushEntry(editions.tariffs[holder], found % FOUND_STEP, holder != frame.year);
        }

        private int pushEntry(Tariff tariff, int table, boolean foreign) {
            long i = pop();
            if (!tariff.hasEntry(table, i)) {
                return THROWN_ENTRY;
            }
            if (foreign && tariff.phase == STARTING) {
                tariff.halves++;
            }
            return push(tariff.entries[table * ENTRIES + (int) i]);
        }

        private int storeEntry(Frame frame, int startAndTable) {
            Tariff tariff = editions.tariffs[frame.year];
            int table = startAndTable % FOUND_STEP;
            long value = pop();
            if (tariff.hasEntry(table, frame.at)) {
                tariff.entries[table * ENTRIES + frame.at] = value;
            }
            frame.at++;
            if (!tariff.hasEntry(table, frame.at)) {
                return PASSED;
            }
            frame.pc = startAndTable / FOUND_STEP;
            return STAYS;
        }
    }

    /** A voyage with its locks, and what its latest bill came to. */
    private static final class Voyage {
        final int tons;
        final int cargo;
        int locks;
        final int[] numbers;
        final int[] years;
        final int[] days;
        final long[] lines;
        long sum;
        // How many lines the latest bill has: locks that come later have none yet.
        int billed;

        Voyage(int tons, int cargo) {
            this.tons = tons;
            this.cargo = cargo;
            numbers = new int[LOCKS];
            years = new int[LOCKS];
            days = new int[LOCKS];
            lines = new long[LOCKS];
        }

        void addLock(int number, int year, int day) {
            if (locks < LOCKS) {
                numbers[locks] = number;
                years[locks] = year;
                days[locks] = day;
                locks++;
            }
        }
    }
}
