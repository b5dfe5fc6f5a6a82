/** An editor of files by templates; ../shared/DOC.md says what each call does. */
public final class HexTemplates {
    public static final int NONE = -1;
    public static final int LOOPS = -2;
    public static final int STRUCTURE = 0, ARRAY = 1, NUMBER = 2, REFERENCE = 3, BITS = 4, STRING = 5;
    public static final int FINE = 0, OUT = 1, MAGIC = 2, COUNT = 3, DEEP = 4, MANY = 5;

    private static final int TAPE_LIMIT = 200;
    private static final int FILE_LIMIT = 160;
    private static final int STATE_LIMIT = 30;
    private static final int TEMPLATE_LIMIT = 4;
    private static final int RANK_LIMIT = 9;
    private static final int NODE_LIMIT = 200;
    private static final int DEPTH_LIMIT = 5;
    private static final int STRUCTURE_LIMIT = 6;
    private static final int FIELD_LIMIT = 8;
    private static final int FIELDS = STRUCTURE_LIMIT * FIELD_LIMIT;
    private static final int LETTERS = 26;
    /** A term of a sum, and a Name of several, has at least two signs of the tape. */
    private static final int PARTS = TAPE_LIMIT / 2;
    private static final int SUM_LIMIT = 99999;
    private static final int STRING_LIMIT = 100;
    private static final int ELEMENT_LIMIT = 20;
    private static final int REFERENCE_LIMIT = 255;
    private static final int FIND_LIMIT = 200;
    private static final int ROUNDS = 4;
    private static final int CONTEXT = 2;
    /** Of the chosen template: it has not been looked for since the file or the templates changed. */
    private static final int UNREAD = -3;

    private final Bytes tape = new Bytes(TAPE_LIMIT);
    private final Bytes file = new Bytes(FILE_LIMIT);
    private final Parser parser = new Parser();
    private final Template[] templates = new Template[TEMPLATE_LIMIT];
    private final States states = new States();
    private final Reader reader = new Reader();
    private final Reader trial = new Reader();
    private final Editor editor = new Editor();
    private final Hunk change = new Hunk();
    private final boolean[] visited = new boolean[STRUCTURE_LIMIT * (REFERENCE_LIMIT + 1)];
    private int templateCount = 0;
    private int chosenNumber = UNREAD;

    public HexTemplates() {
    }

    // ---- files, templates, states

    public int feed(long bytes, int n) throws IllegalArgumentException, IllegalStateException {
        if (n < 1 || n > 8) {
            throw new IllegalArgumentException("n is out of range");
        }
        if (tape.length + n > TAPE_LIMIT) {
            throw new IllegalStateException("the tape is full");
        }
        for (int k = 0; k < n; k++) {
            tape.append((int) (bytes >>> (8 * k)) & 255);
        }
        return tape.length;
    }

    public int give() throws IllegalStateException {
        boolean isTaken = tape.length <= FILE_LIMIT && !states.isFull();
        if (isTaken) {
            file.copy(tape);
        }
        tape.length = 0;
        if (!isTaken) {
            throw new IllegalStateException("there are 30 states, or the file is too long");
        }
        return keepFile();
    }

    public int template(int rank) throws IllegalArgumentException, IllegalStateException {
        if (rank < 0 || rank > RANK_LIMIT) {
            throw new IllegalArgumentException("rank is out of range");
        }
        Template next = nextTemplate();
        boolean isTaken = next != null && parser.parse(tape, next);
        tape.length = 0;
        if (!isTaken) {
            throw new IllegalStateException("it is no template, or there are 4");
        }
        next.rank = rank;
        chosenNumber = UNREAD;
        templateCount++;
        return templateCount - 1;
    }

    public int size() {
        return file.length;
    }

    public int byteAt(int place) throws IndexOutOfBoundsException {
        if (place < 0 || place >= file.length) {
            throw new IndexOutOfBoundsException("there is no such place");
        }
        return file.get(place);
    }

    public int state() {
        return states.present;
    }

    public int parent(int state) throws IndexOutOfBoundsException {
        checkState(state);
        return states.parentOf(state);
    }

    public int goTo(int state) throws IndexOutOfBoundsException {
        checkState(state);
        states.present = state;
        states.load(state, file);
        chosenNumber = UNREAD;
        return file.length;
    }

    // ---- what is read

    public int chosen() {
        readFile();
        return chosenNumber;
    }

    public int fault(int template, boolean isOffset) throws IndexOutOfBoundsException {
        if (template < 0 || template >= templateCount) {
            throw new IndexOutOfBoundsException("there is no such template");
        }
        trial.readAt(templates[template], file, 0, 0);
        return isOffset ? trial.faultAt : trial.fault;
    }

    public int nodes() {
        readFile();
        return reader.table.count;
    }

    public int node(int node, int what) throws IndexOutOfBoundsException, IllegalArgumentException {
        checkNode(node);
        if (what < 0 || what > 6) {
            throw new IllegalArgumentException("what is out of range");
        }
        Nodes table = reader.table;
        switch (what) {
            case 0: return table.kind[node];
            case 1: return table.name[node];
            case 2: return table.offset[node];
            case 3: return table.length[node];
            case 4: return table.value[node];
            case 5: return table.parent[node];
            default: return reader.holds(node) ? 1 : 0;
        }
    }

    public int wrong() {
        readFile();
        return reader.countWrong();
    }

    public int wrongByAll() {
        readFile();
        return trial.readAt(chosenTemplate(), file, 0, 0) ? trial.wrongs : 0;
    }

    public int follow(int node) throws IndexOutOfBoundsException, IllegalStateException {
        checkNode(node);
        checkReference(node);
        Template read = chosenTemplate();
        int structure = reader.structureTold(reader.table.field[node]);
        int offset = reader.table.value[node];
        return trial.readAt(read, file, structure, offset) ? trial.at - offset : NONE;
    }

    public int chain(int node) throws IndexOutOfBoundsException, IllegalStateException {
        checkNode(node);
        checkReference(node);
        Template read = chosenTemplate();
        int structure = reader.structureTold(reader.table.field[node]);
        int offset = reader.table.value[node];
        forgetVisits();
        int followed = 0;
        for (int k = 0; k < visited.length; k++) {
            if (isVisited(structure, offset)) {
                return LOOPS;
            }
            if (!trial.readAt(read, file, structure, offset)) {
                return followed;
            }
            followed++;
            int next = trial.table.firstReferenceIn(0);
            if (next == NONE) {
                return followed;
            }
            structure = trial.structureTold(trial.table.field[next]);
            offset = trial.table.value[next];
        }
        return LOOPS;
    }

    public int find(int value, int mask, int from) throws IllegalArgumentException {
        if (value < 0 || value > 255 || mask < 0 || mask > 255 || from < 0 || from > FIND_LIMIT) {
            throw new IllegalArgumentException("an argument is out of range");
        }
        for (int k = from; k < file.length; k++) {
            if ((file.get(k) & mask) == (value & mask)) {
                return k;
            }
        }
        return NONE;
    }

    public int findField(int name, int value, int from) throws IllegalArgumentException {
        if (name < 0 || name >= LETTERS || value < 0 || value > 65535 || from < 0 || from > FIND_LIMIT) {
            throw new IllegalArgumentException("an argument is out of range");
        }
        readFile();
        Nodes table = reader.table;
        for (int k = from; k < table.count; k++) {
            if (table.isNumeric(k) && table.name[k] == name && table.value[k] == value) {
                return k;
            }
        }
        return NONE;
    }

    // ---- edits; each of these returns the state, and throws IllegalStateException also if there are 30, or it is refused

    public int set(int node, int value) throws IndexOutOfBoundsException, IllegalStateException {
        checkNode(node);
        if (!isFree(node) || value < 0 || value > reader.greatest(node)) {
            throw new IllegalStateException("the field can't be set to that");
        }
        editor.begin(file);
        editor.write(reader, node, value);
        return finishEdit();
    }

    public int insert(int node, int place, int value)
            throws IndexOutOfBoundsException, IllegalArgumentException, IllegalStateException {
        checkNode(node);
        if (value < 0 || value > 255) {
            throw new IllegalArgumentException("value is out of range");
        }
        checkPlace(place, reader.stringLength(node));
        if (value == 0 && reader.isEndedByZero(node)) {
            throw new IllegalStateException("the string would end at that");
        }
        int offset = reader.table.offset[node] + place;
        editor.begin(file);
        boolean isPut = editor.putIn(reader, node, offset, 1);
        editor.work.put(offset, value);
        checkEdit(isPut);
        return finishEdit();
    }

    public int remove(int node, int place) throws IndexOutOfBoundsException, IllegalStateException {
        checkNode(node);
        checkPlace(place, reader.stringLength(node) - 1);
        editor.begin(file);
        editor.takeOut(reader, node, reader.table.offset[node] + place, 1);
        return finishEdit();
    }

    public int element(int node, int place, boolean isDoubled)
            throws IndexOutOfBoundsException, IllegalStateException {
        checkNode(node);
        int element = reader.table.elementAt(node, place);
        checkEdit(element != NONE);
        int offset = reader.table.offset[element];
        int length = reader.table.length[element];
        editor.begin(file);
        if (isDoubled) {
            boolean isPut = editor.putIn(reader, node, offset + length, length);
            checkEdit(isPut);
            editor.work.repeat(offset, length);
        } else {
            editor.takeOut(reader, node, offset, length);
        }
        return finishEdit();
    }

    public int repair() throws IllegalStateException {
        readFile();
        editor.begin(file);
        return finishEdit();
    }

    // ---- patches

    public int hunk(int from, int to, int what) throws IndexOutOfBoundsException, IllegalArgumentException {
        checkState(from);
        checkState(to);
        if (what < 0 || what > 2) {
            throw new IllegalArgumentException("what is out of range");
        }
        change.compare(states, from, to);
        return what == 0 ? change.offset : what == 1 ? change.taken : change.put;
    }

    public int patch(int from, int to) throws IndexOutOfBoundsException, IllegalStateException {
        checkState(from);
        checkState(to);
        change.compare(states, from, to);
        int place = change.placeIn(states, from, file);
        if (place == NONE || states.isFull() || file.length - change.taken + change.put > FILE_LIMIT) {
            throw new IllegalStateException("the patch does not fit, or there are 30 states");
        }
        change.apply(states, to, file, place);
        return keepFile();
    }

    // ---- what the calls share

    /** The rows for one more template, null if there are 4; those of a tape that was none are used again. */
    private Template nextTemplate() {
        if (templateCount >= TEMPLATE_LIMIT) {
            return null;
        }
        if (templates[templateCount] == null) {
            templates[templateCount] = new Template();
        }
        return templates[templateCount];
    }

    /** Makes a state of the file. */
    private int keepFile() {
        chosenNumber = UNREAD;
        return states.keep(file);
    }

    private Template chosenTemplate() {
        return chosenNumber >= 0 && chosenNumber < templateCount ? templates[chosenNumber] : null;
    }

    /** Finds the template of the file, and reads the file by it, if that is not yet done. */
    private void readFile() {
        if (chosenNumber != UNREAD) {
            return;
        }
        chosenNumber = NONE;
        int rank = NONE;
        for (int k = 0; k < templateCount; k++) {
            Template one = templates[k];
            if (one != null && one.rank > rank && reader.readAt(one, file, 0, 0)) {
                chosenNumber = k;
                rank = one.rank;
            }
        }
        reader.readAt(chosenTemplate(), file, 0, 0);
    }

    private void checkState(int state) {
        if (state < 0 || state >= states.count) {
            throw new IndexOutOfBoundsException("there is no such state");
        }
    }

    private void checkNode(int node) {
        readFile();
        if (!reader.table.has(node)) {
            throw new IndexOutOfBoundsException("there is no such node");
        }
    }

    private void checkReference(int node) {
        if (reader.table.kind[node] != REFERENCE) {
            throw new IllegalStateException("it is no reference");
        }
    }

    private void checkPlace(int place, int greatest) {
        if (place < 0 || place > greatest) {
            throw new IllegalStateException("it is no string, or there is no such place");
        }
    }

    private void checkEdit(boolean isPossible) {
        if (!isPossible) {
            throw new IllegalStateException("the edit is refused");
        }
    }

    private boolean isFree(int node) {
        return reader.table.isNumeric(node) && reader.relationOf(node) == Template.UNRELATED;
    }

    private int finishEdit() {
        Template used = chosenTemplate();
        if (used == null || states.isFull() || !editor.settleCounts(trial, used)
                || !editor.settleSums(trial) || !editor.stands(trial, used)) {
            throw new IllegalStateException("the edit is refused, or there are 30 states");
        }
        file.copy(editor.work);
        return keepFile();
    }

    private void forgetVisits() {
        for (int k = 0; k < visited.length; k++) {
            visited[k] = false;
        }
    }

    /** Tells whether a chain has been at a structure and an offset, and notes that it has. */
    private boolean isVisited(int structure, int offset) {
        int place = structure * (REFERENCE_LIMIT + 1) + offset;
        if (place < 0 || place >= visited.length) {
            return false;
        }
        boolean wasVisited = visited[place];
        visited[place] = true;
        return wasVisited;
    }

    /** A row of bytes whose length changes up to a limit. */
    private static final class Bytes {
        final int[] cells;
        int length = 0;

        Bytes(int limit) {
            cells = new int[limit < 0 ? 0 : limit];
        }

        int get(int place) {
            return place >= 0 && place < length ? cells[place] : 0;
        }

        void put(int place, int value) {
            if (place >= 0 && place < length) {
                cells[place] = value;
            }
        }

        void append(int value) {
            if (length < cells.length) {
                cells[length] = value;
                length++;
            }
        }

        void copy(Bytes other) {
            length = Math.min(other.length, cells.length);
            for (int k = 0; k < length; k++) {
                cells[k] = other.cells[k];
            }
        }

        /** Moves what is behind a place up by so many bytes; without room for them nothing is done. */
        boolean open(int place, int count) {
            if (place < 0 || place > length || count < 0 || count > cells.length - length) {
                return false;
            }
            for (int k = length - 1; k >= place; k--) {
                cells[k + count] = cells[k];
            }
            length += count;
            return true;
        }

        void close(int place, int count) {
            if (place < 0 || count < 0 || count > length - place) {
                return;
            }
            for (int k = place + count; k < length; k++) {
                cells[k - count] = cells[k];
            }
            length -= count;
        }

        /** Writes the bytes at a place once more, over those behind them. */
        void repeat(int place, int count) {
            for (int k = place; k < place + count; k++) {
                put(k + count, get(k));
            }
        }
    }

    /** The states: their bytes and their parents. */
    private static final class States {
        private final int[] cells = new int[STATE_LIMIT * FILE_LIMIT];
        private final int[] sizes = new int[STATE_LIMIT];
        private final int[] parents = new int[STATE_LIMIT];
        int count = 0;
        int present = NONE;

        boolean isFull() {
            return count >= STATE_LIMIT;
        }

        private boolean has(int state) {
            return state >= 0 && state < count;
        }

        int parentOf(int state) {
            return has(state) ? parents[state] : NONE;
        }

        int sizeOf(int state) {
            return has(state) ? sizes[state] : 0;
        }

        int get(int state, int place) {
            return place >= 0 && place < sizeOf(state) ? cells[state * FILE_LIMIT + place] : 0;
        }

        int keep(Bytes file) {
            if (isFull() || file.length > FILE_LIMIT) {
                return NONE;
            }
            sizes[count] = file.length;
            parents[count] = present;
            for (int k = 0; k < file.length; k++) {
                cells[count * FILE_LIMIT + k] = file.get(k);
            }
            present = count;
            count++;
            return present;
        }

        void load(int state, Bytes file) {
            int size = sizeOf(state);
            file.length = 0;
            for (int k = 0; k < size; k++) {
                file.append(get(state, k));
            }
        }
    }

    /** What is unlike in two states, and its place in a file. */
    private static final class Hunk {
        int offset = 0;
        int taken = 0;
        int put = 0;

        void compare(States states, int from, int to) {
            int first = states.sizeOf(from);
            int second = states.sizeOf(to);
            int shorter = Math.min(first, second);
            offset = 0;
            while (offset < shorter && states.get(from, offset) == states.get(to, offset)) {
                offset++;
            }
            int end = 0;
            while (end < shorter - offset
                    && states.get(from, first - 1 - end) == states.get(to, second - 1 - end)) {
                end++;
            }
            taken = first - offset - end;
            put = second - offset - end;
        }

        int placeIn(States states, int from, Bytes file) {
            for (int k = 0; k <= FILE_LIMIT; k++) {
                if (isAt(states, from, file, offset - k)) {
                    return offset - k;
                }
                if (isAt(states, from, file, offset + k)) {
                    return offset + k;
                }
            }
            return NONE;
        }

        private boolean isAt(States states, int from, Bytes file, int place) {
            int ahead = Math.min(CONTEXT, offset);
            int length = taken + Math.min(CONTEXT, states.sizeOf(from) - offset - taken);
            if (place < ahead || place + length > file.length) {
                return false;
            }
            for (int k = -ahead; k < length; k++) {
                if (states.get(from, offset + k) != file.get(place + k)) {
                    return false;
                }
            }
            return true;
        }

        void apply(States states, int to, Bytes file, int place) {
            file.close(place, taken);
            if (file.open(place, put)) {
                for (int k = 0; k < put; k++) {
                    file.put(place + k, states.get(to, offset + k));
                }
            }
        }
    }

    /** A template: its fields are numbered through all structures, FIELD_LIMIT for each one. */
    private static final class Template {
        static final int ONE = 'A', ROW = '[';
        static final int UNRELATED = 0, EXACT = '=';
        static final int BY_SUM = '+', BY_ALL = '*', BY_END = '!', BY_CONDITION = '?';

        int rank = 0;
        int structureCount = 0;
        int termCount = 0;
        int choiceCount = 0;
        final int[] structureName = new int[STRUCTURE_LIMIT];
        final int[] fieldCount = new int[STRUCTURE_LIMIT];
        /** The terms of all sums: an INT, or, below 0, the number of a field in its structure, as -1 - it. */
        final int[] terms = new int[PARTS];
        final int[] termSign = new int[PARTS];
        /** The structures that all fields name. */
        final int[] choices = new int[PARTS];
        final int[] name = new int[FIELDS];
        /** The sign by which its type begins, or ONE or ROW. */
        final int[] type = new int[FIELDS];
        final int[] bits = new int[FIELDS];
        /** How many bits of its byte are behind a field n. */
        final int[] shift = new int[FIELDS];
        final int[] sumFrom = new int[FIELDS];
        final int[] sumTo = new int[FIELDS];
        final int[] choiceFrom = new int[FIELDS];
        final int[] choiceTo = new int[FIELDS];
        /** How an array is counted, and by BY_END the byte behind it. */
        final int[] way = new int[FIELDS];
        final int[] end = new int[FIELDS];
        /** The sign of a relation, EXACT or UNRELATED, and its INT or the number of its field. */
        final int[] relation = new int[FIELDS];
        final int[] argument = new int[FIELDS];

        void clear() {
            structureCount = 0;
            termCount = 0;
            choiceCount = 0;
        }

        int structureNamed(int letter) {
            for (int k = 0; k < structureCount; k++) {
                if (structureName[k] == letter) {
                    return k;
                }
            }
            return NONE;
        }

        /** The number that a field has in its structure. */
        int placeOf(int structure, int letter) {
            for (int k = 0; k < fieldCount[structure]; k++) {
                if (name[structure * FIELD_LIMIT + k] == letter) {
                    return k;
                }
            }
            return NONE;
        }

        boolean isNumeric(int field) {
            int sign = type[field];
            return isRelatable(field) || sign == 'r' || sign == 'n';
        }

        /** The kind of the nodes of a field without structures. */
        int kindOf(int field) {
            switch (type[field]) {
                case 's':
                case 'z':
                    return STRING;
                case 'n':
                    return BITS;
                case 'r':
                    return REFERENCE;
                default:
                    return NUMBER;
            }
        }

        boolean isRelatable(int field) {
            int sign = type[field];
            return sign == 'b' || sign == 'w' || sign == 'W';
        }

        boolean addTerm(int sign, int term) {
            if (termCount >= PARTS) {
                return false;
            }
            termSign[termCount] = sign;
            terms[termCount] = term;
            termCount++;
            return true;
        }

        boolean addChoice(int letter) {
            if (choiceCount >= PARTS) {
                return false;
            }
            choices[choiceCount] = letter;
            choiceCount++;
            return true;
        }
    }

    /** Reads a tape as a template, sign by sign. */
    private static final class Parser {
        private static final int END = -1;

        private Bytes text = null;
        private Template into = null;
        private int at = 0;
        /** The sign at the place, END behind the last one. */
        private int sign = END;
        private int structure = 0;
        /** How many bits of a byte the fields n have taken so far. */
        private int bitsTaken = 0;

        boolean parse(Bytes tape, Template template) {
            begin(tape, template);
            for (int s = 0; s < STRUCTURE_LIMIT && sign != END; s++) {
                if (!openStructure(s)) {
                    return false;
                }
                for (int f = 0; f < FIELD_LIMIT && sign != '}'; f++) {
                    if (!parseField(s * FIELD_LIMIT + f)) {
                        return false;
                    }
                }
                if (!closeStructure()) {
                    return false;
                }
            }
            return sign == END && into.structureCount > 0 && resolveChoices();
        }

        private void begin(Bytes tape, Template template) {
            text = tape;
            into = template;
            into.clear();
            bitsTaken = 0;
            at = -1;
            advance();
        }

        private void advance() {
            at++;
            sign = at >= 0 && at < text.length ? text.cells[at] : END;
        }

        private boolean accept(int due) {
            if (sign != due) {
                return false;
            }
            advance();
            return true;
        }

        private boolean isName() {
            return sign >= 'A' && sign <= 'Z' && sign != 'W';
        }

        private boolean isDigit() {
            return sign >= '0' && sign <= '9';
        }

        private boolean openStructure(int number) {
            if (!isName() || into.structureNamed(sign - 'A') != NONE) {
                return false;
            }
            structure = number;
            into.structureName[number] = sign - 'A';
            into.fieldCount[number] = 0;
            into.structureCount++;
            advance();
            return accept('{');
        }

        private boolean closeStructure() {
            for (int k = 0; k < into.fieldCount[structure]; k++) {
                if (!resolveRelation(k)) {
                    return false;
                }
            }
            return bitsTaken == 0 && accept('}');
        }

        /** A Name may be that of a later structure: so it is looked for when all are there. */
        private boolean resolveChoices() {
            for (int k = 0; k < into.choiceCount; k++) {
                into.choices[k] = into.structureNamed(into.choices[k]);
                if (into.choices[k] == NONE) {
                    return false;
                }
            }
            return true;
        }

        /** A relation may tell of a later field: so its name is looked for at the end of the structure. */
        private boolean resolveRelation(int place) {
            int field = structure * FIELD_LIMIT + place;
            int relation = into.relation[field];
            if (relation == Template.UNRELATED || relation == Template.EXACT) {
                return true;
            }
            int other = into.placeOf(structure, into.argument[field]);
            if (other == NONE || other == place) {
                return false;
            }
            into.argument[field] = structure * FIELD_LIMIT + other;
            return relation != '%' || into.type[structure * FIELD_LIMIT + other] == Template.ROW;
        }

        private boolean parseField(int field) {
            int name = sign - 'a';
            if (name < 0 || name >= LETTERS || into.placeOf(structure, name) != NONE) {
                return false;
            }
            advance();
            if (!accept(':') || !parseType(field)) {
                return false;
            }
            into.name[field] = name;
            into.relation[field] = Template.UNRELATED;
            if (sign == '=' && !parseRelation(field)) {
                return false;
            }
            into.fieldCount[structure]++;
            return accept(';');
        }

        private boolean parseType(int field) {
            int type = sign;
            if (type != 'n' && bitsTaken != 0) {
                return false;
            }
            if (isName()) {
                into.type[field] = Template.ONE;
                return parseNames(field) && (sign != '[' || parseCount(field));
            }
            into.type[field] = type;
            into.bits[field] = type == 'w' || type == 'W' ? 16 : 8;
            advance();
            switch (type) {
                case 'b':
                case 'w':
                case 'W':
                case 'z':
                    return true;
                case 'r':
                    into.choiceFrom[field] = into.choiceCount;
                    into.choiceTo[field] = into.choiceCount + 1;
                    return parseChoice();
                case 'n':
                    return parseBits(field);
                case 's':
                    return accept('(') && parseSum(field) && accept(')');
                default:
                    return false;
            }
        }

        private boolean parseChoice() {
            if (!isName() || !into.addChoice(sign - 'A')) {
                return false;
            }
            advance();
            return true;
        }

        private boolean parseBits(int field) {
            int bits = sign - '0';
            if (bits < 1 || bits > 8 - bitsTaken) {
                return false;
            }
            bitsTaken += bits;
            into.bits[field] = bits;
            into.shift[field] = 8 - bitsTaken;
            bitsTaken = bitsTaken == 8 ? 0 : bitsTaken;
            advance();
            return true;
        }

        private boolean parseNames(int field) {
            into.choiceFrom[field] = into.choiceCount;
            if (!parseChoice()) {
                return false;
            }
            for (int k = 0; k < PARTS && sign == '|'; k++) {
                advance();
                if (!parseChoice()) {
                    return false;
                }
            }
            into.choiceTo[field] = into.choiceCount;
            return true;
        }

        private boolean parseCount(int field) {
            into.type[field] = Template.ROW;
            into.way[field] = Template.BY_SUM;
            advance();
            if (sign == Template.BY_ALL || sign == Template.BY_END || sign == Template.BY_CONDITION) {
                into.way[field] = sign;
                advance();
            }
            if (into.way[field] == Template.BY_ALL) {
                return accept(']');
            }
            if (into.way[field] == Template.BY_END) {
                into.end[field] = parseInt();
                return into.end[field] != NONE && accept(']');
            }
            return parseSum(field) && accept(']');
        }

        private boolean parseSum(int field) {
            into.sumFrom[field] = into.termCount;
            int operation = '+';
            for (int k = 0; k < PARTS; k++) {
                int place = isDigit() ? NONE : into.placeOf(structure, sign - 'a');
                if (!isDigit() && (place == NONE || !into.isNumeric(structure * FIELD_LIMIT + place))) {
                    return false;
                }
                int term = -1 - place;
                if (isDigit()) {
                    term = parseInt();
                } else {
                    advance();
                }
                if (!into.addTerm(operation, term)) {
                    return false;
                }
                into.sumTo[field] = into.termCount;
                if (sign != '+' && sign != '-' && sign != '*') {
                    return true;
                }
                operation = sign;
                advance();
            }
            return false;
        }

        /** 1 to 3 digits: a fourth one stays, and nothing takes it. */
        private int parseInt() {
            int value = NONE;
            for (int k = 0; k < 3 && isDigit(); k++) {
                value = Math.max(value, 0) * 10 + sign - '0';
                advance();
            }
            return value;
        }

        private boolean parseRelation(int field) {
            if (!into.isRelatable(field)) {
                return false;
            }
            advance();
            if (isDigit()) {
                into.relation[field] = Template.EXACT;
                into.argument[field] = parseInt();
                return true;
            }
            if (sign != '#' && sign != '%' && sign != '+' && sign != '^') {
                return false;
            }
            into.relation[field] = sign;
            advance();
            into.argument[field] = sign - 'a';
            advance();
            return true;
        }
    }

    /** The nodes of a file, in rows; the field of a node is NONE for the whole file and for elements. */
    private static final class Nodes {
        final int[] kind = new int[NODE_LIMIT];
        final int[] name = new int[NODE_LIMIT];
        final int[] offset = new int[NODE_LIMIT];
        final int[] length = new int[NODE_LIMIT];
        final int[] value = new int[NODE_LIMIT];
        final int[] parent = new int[NODE_LIMIT];
        final int[] field = new int[NODE_LIMIT];
        int count = 0;

        boolean has(int node) {
            return node >= 0 && node < count;
        }

        int add(int kindOfNode, int fieldOfNode, int place, int parentOfNode) {
            if (count >= NODE_LIMIT) {
                return NONE;
            }
            kind[count] = kindOfNode;
            field[count] = fieldOfNode;
            offset[count] = place;
            parent[count] = parentOfNode;
            count++;
            return count - 1;
        }

        void tell(int node, int nameOfNode, int lengthOfNode, int valueOfNode) {
            if (has(node)) {
                name[node] = nameOfNode;
                length[node] = lengthOfNode;
                value[node] = valueOfNode;
            }
        }

        boolean isNumeric(int node) {
            return has(node) && (kind[node] == NUMBER || kind[node] == REFERENCE || kind[node] == BITS);
        }

        int fieldIn(int structure, int wanted) {
            for (int k = structure + 1; k < count; k++) {
                if (parent[k] == structure && field[k] == wanted) {
                    return k;
                }
            }
            return NONE;
        }

        int firstReferenceIn(int structure) {
            for (int k = structure + 1; k < count; k++) {
                if (parent[k] == structure && kind[k] == REFERENCE) {
                    return k;
                }
            }
            return NONE;
        }

        int elementAt(int array, int place) {
            if (!has(array) || kind[array] != ARRAY || place < 0) {
                return NONE;
            }
            int left = place;
            for (int k = array + 1; k < count; k++) {
                if (parent[k] == array) {
                    if (left == 0) {
                        return k;
                    }
                    left--;
                }
            }
            return NONE;
        }

        /** Whether a node is another one or has it in it. */
        boolean holds(int outer, int inner) {
            int one = inner;
            for (int k = 0; k < NODE_LIMIT && has(one); k++) {
                if (one == outer) {
                    return true;
                }
                one = parent[one];
            }
            return false;
        }
    }

    /** Reads a file by a template, and tells of what it has read. */
    private static final class Reader {
        private static final int FRAMES = (DEPTH_LIMIT + 1) * FIELD_LIMIT;

        final Nodes table = new Nodes();
        private Template template = null;
        private Bytes file = null;
        int at = 0;
        private int made = 0;
        int fault = FINE;
        int faultAt = NONE;
        /** How many relations do not hold, counted structure by structure as they are read. */
        int wrongs = 0;
        /** The fields of the structure that is open in each depth: where, how long, and a value or how many elements. */
        private final int[] starts = new int[FRAMES];
        private final int[] lengths = new int[FRAMES];
        private final int[] values = new int[FRAMES];

        /** Reads a structure; the nodes are told as if it were the whole file. */
        boolean readAt(Template by, Bytes bytes, int structure, int offset) {
            template = by;
            file = bytes;
            at = offset;
            made = 0;
            wrongs = 0;
            table.count = 0;
            fault = FINE;
            faultAt = NONE;
            if (by == null || structure < 0 || structure >= by.structureCount) {
                return false;
            }
            boolean isFine = readStructure(structure, NONE, NONE, 0);
            if (isFine) {
                fault = FINE;
                faultAt = NONE;
            }
            return isFine;
        }

        private boolean fail(int kind, int place) {
            fault = kind;
            faultAt = place;
            return false;
        }

        private int make(int kind, int field, int parent) {
            if (made >= NODE_LIMIT) {
                fault = MANY;
                faultAt = at;
                return NONE;
            }
            made++;
            return table.add(kind, field, at, parent);
        }

        private boolean readStructure(int structure, int field, int parent, int depth) {
            if (depth > DEPTH_LIMIT) {
                return fail(DEEP, at);
            }
            int start = at;
            int node = make(STRUCTURE, field, parent);
            if (node == NONE) {
                return false;
            }
            for (int k = 0; k < template.fieldCount[structure]; k++) {
                if (!readField(structure * FIELD_LIMIT + k, node, depth)) {
                    return false;
                }
            }
            countWrongIn(structure, depth);
            int own = template.structureName[structure];
            table.tell(node, field == NONE ? own : template.name[field], at - start, own);
            return true;
        }

        private boolean readField(int field, int parent, int depth) {
            int frame = depth * FIELD_LIMIT + field % FIELD_LIMIT;
            starts[frame] = at;
            boolean isFine;
            switch (template.type[field]) {
                case Template.ONE:
                    isFine = readNames(field, field, parent, depth + 1);
                    break;
                case Template.ROW:
                    isFine = readArray(field, parent, depth);
                    break;
                default:
                    return readPlain(field, parent, frame);
            }
            lengths[frame] = at - starts[frame];
            return isFine;
        }

        /** Reads a field without structures; its node counts from where it begins, whatever fault it may have. */
        private boolean readPlain(int field, int parent, int frame) {
            int kind = template.kindOf(field);
            int node = make(kind, field, parent);
            if (node == NONE) {
                return false;
            }
            boolean isFine;
            switch (template.type[field]) {
                case 's':
                    isFine = measureCounted(field, frame);
                    break;
                case 'z':
                    isFine = measureEnded(frame);
                    break;
                case 'n':
                    isFine = measureBits(field, frame);
                    break;
                default:
                    isFine = measureNumber(field, frame);
            }
            if (!isFine) {
                return false;
            }
            table.tell(node, template.name[field], lengths[frame], values[frame]);
            // the last field n of a byte has no bits of it behind it
            at += kind == BITS && template.shift[field] != 0 ? 0 : lengths[frame];
            return true;
        }

        private boolean measureNumber(int field, int frame) {
            int length = template.bits[field] / 8;
            if (at + length > file.length) {
                return fail(OUT, at);
            }
            int value = file.get(at);
            if (length == 2) {
                int next = file.get(at + 1);
                value = template.type[field] == 'W' ? value << 8 | next : next << 8 | value;
            }
            if (template.relation[field] == Template.EXACT && value != template.argument[field]) {
                return fail(MAGIC, at);
            }
            lengths[frame] = length;
            values[frame] = value;
            return true;
        }

        private boolean measureBits(int field, int frame) {
            if (at >= file.length) {
                return fail(OUT, at);
            }
            lengths[frame] = 1;
            values[frame] = cut(file.get(at) >> template.shift[field], template.bits[field]);
            return true;
        }

        private boolean measureCounted(int field, int frame) {
            int length = reckonSum(field, frame - frame % FIELD_LIMIT);
            if (length < 0 || length > STRING_LIMIT) {
                return fail(COUNT, at);
            }
            // a reference may lead behind the end: there no bytes are missing for an empty string
            if (length > 0 && at + length > file.length) {
                return fail(OUT, at);
            }
            lengths[frame] = length;
            values[frame] = length == 0 ? NONE : file.get(at);
            return true;
        }

        private boolean measureEnded(int frame) {
            for (int k = at; k < file.length; k++) {
                if (file.get(k) == 0) {
                    lengths[frame] = k + 1 - at;
                    values[frame] = file.get(at);
                    return true;
                }
            }
            return fail(OUT, at);
        }

        /** Reads the first one that can be read of a field's structures: of the field, or of an element (of NONE). */
        private boolean readNames(int field, int owner, int parent, int depth) {
            int start = at;
            int nodes = table.count;
            int wrongsAhead = wrongs;
            for (int k = template.choiceFrom[field]; k < template.choiceTo[field]; k++) {
                goBack(start, nodes, wrongsAhead);
                if (readStructure(template.choices[k], owner, parent, depth)) {
                    return true;
                }
                if (fault == MANY) {
                    return false;
                }
            }
            return false;
        }

        private void goBack(int place, int nodes, int wrongsThen) {
            at = place;
            table.count = nodes;
            wrongs = wrongsThen;
        }

        private boolean readArray(int field, int parent, int depth) {
            int start = at;
            int frame = depth * FIELD_LIMIT;
            int way = template.way[field];
            int node = make(ARRAY, field, parent);
            if (node == NONE) {
                return false;
            }
            int count = 0;
            if (way == Template.BY_SUM || way == Template.BY_CONDITION) {
                count = reckonSum(field, frame);
            }
            if (way == Template.BY_SUM && (count < 0 || count > ELEMENT_LIMIT)) {
                return fail(COUNT, at);
            }
            if (way == Template.BY_CONDITION && count != 0) {
                count = 1;
            }
            if (way == Template.BY_ALL) {
                count = readWhileFine(field, node, depth);
            } else if (way == Template.BY_END) {
                count = readToEnd(field, node, depth);
            } else if (!readCounted(field, node, depth, count)) {
                count = NONE;
            }
            table.tell(node, template.name[field], at - start, count);
            values[frame + field % FIELD_LIMIT] = count;
            return count != NONE;
        }

        private boolean readCounted(int field, int array, int depth, int count) {
            for (int k = 0; k < count; k++) {
                if (!readNames(field, NONE, array, depth + 1)) {
                    return false;
                }
            }
            return true;
        }

        private int readWhileFine(int field, int array, int depth) {
            for (int k = 0; k <= NODE_LIMIT; k++) {
                int start = at;
                int nodes = table.count;
                int wrongsAhead = wrongs;
                boolean isFine = readNames(field, NONE, array, depth + 1);
                if (!isFine && fault == MANY) {
                    return NONE;
                }
                if (!isFine || at == start) {
                    goBack(start, nodes, wrongsAhead);
                    return k;
                }
            }
            return NONE;
        }

        private int readToEnd(int field, int array, int depth) {
            int start = at;
            for (int k = 0; k <= NODE_LIMIT; k++) {
                if (at < file.length && file.get(at) == template.end[field]) {
                    return k;
                }
                int place = at;
                boolean isThere = at < file.length;
                if (isThere && !readNames(field, NONE, array, depth + 1)) {
                    return NONE;
                }
                if (!isThere || at == place) {
                    fail(OUT, start);
                    return NONE;
                }
            }
            return NONE;
        }

        private int reckonSum(int field, int frame) {
            int total = 0;
            for (int k = template.sumFrom[field]; k < template.sumTo[field]; k++) {
                int term = template.terms[k];
                long number = term >= 0 ? term : values[frame - 1 - term];
                int sign = template.termSign[k];
                long next = sign == '+' ? total + number : sign == '-' ? total - number : total * number;
                total = (int) Math.max(-SUM_LIMIT, Math.min(SUM_LIMIT, next));
            }
            return total;
        }

        /** Counts the relations of a structure that do not hold, by its fields alone. */
        private void countWrongIn(int structure, int depth) {
            for (int k = 0; k < template.fieldCount[structure]; k++) {
                int field = structure * FIELD_LIMIT + k;
                int relation = template.relation[field];
                if (relation != Template.UNRELATED && relation != Template.EXACT) {
                    int other = depth * FIELD_LIMIT + template.argument[field] % FIELD_LIMIT;
                    int due = reckon(relation, starts[other], lengths[other], values[other]);
                    if (values[depth * FIELD_LIMIT + k] != cut(due, template.bits[field])) {
                        wrongs++;
                    }
                }
            }
        }

        private int reckon(int relation, int offset, int length, int elements) {
            if (relation == '#') {
                return length;
            }
            if (relation == '%') {
                return elements;
            }
            int all = 0;
            for (int k = offset; k < offset + length; k++) {
                all = relation == '+' ? all + file.get(k) : all ^ file.get(k);
            }
            return all;
        }

        private int cut(int value, int bits) {
            return value & (1 << bits) - 1;
        }

        // ---- what has been read

        int relationOf(int node) {
            int field = table.has(node) ? table.field[node] : NONE;
            return field == NONE ? Template.UNRELATED : template.relation[field];
        }

        /** The node of the field that a relation tells of. */
        int otherOf(int node) {
            int relation = relationOf(node);
            if (relation == Template.UNRELATED || relation == Template.EXACT) {
                return NONE;
            }
            return table.fieldIn(table.parent[node], template.argument[table.field[node]]);
        }

        /** What the value of a node should be, by the bytes of the file as they are now. */
        int dueOf(int node) {
            int other = otherOf(node);
            if (other == NONE) {
                return table.value[node];
            }
            int due = reckon(relationOf(node), table.offset[other], table.length[other], table.value[other]);
            return cut(due, template.bits[table.field[node]]);
        }

        boolean holds(int node) {
            return table.value[node] == dueOf(node);
        }

        int countWrong() {
            int count = 0;
            for (int k = 0; k < table.count; k++) {
                count += table.value[k] == dueOf(k) ? 0 : 1;
            }
            return count;
        }

        int typeOf(int node) {
            int field = table.has(node) ? table.field[node] : NONE;
            return field == NONE ? Template.ONE : template.type[field];
        }

        /** The structure to which a reference refers. */
        int structureTold(int field) {
            return field < 0 || field >= FIELDS ? NONE : template.choices[template.choiceFrom[field]];
        }

        int greatest(int node) {
            int field = table.has(node) ? table.field[node] : NONE;
            return field == NONE ? NONE : (1 << template.bits[field]) - 1;
        }

        int shiftOf(int node) {
            return typeOf(node) == 'n' ? template.shift[table.field[node]] : 0;
        }

        boolean isEndedByZero(int node) {
            return typeOf(node) == 'z';
        }

        /** How many bytes of a string can be edited: all but the end of z; NONE if it is no string. */
        int stringLength(int node) {
            if (!table.has(node) || table.kind[node] != STRING) {
                return NONE;
            }
            return isEndedByZero(node) ? table.length[node] - 1 : table.length[node];
        }
    }

    /** Makes an edit in a copy of the file. */
    private static final class Editor {
        final Bytes work = new Bytes(FILE_LIMIT);
        private final boolean[] isLeft = new boolean[NODE_LIMIT];

        void begin(Bytes file) {
            work.copy(file);
        }

        void write(Reader read, int node, int value) {
            int offset = read.table.offset[node];
            switch (read.typeOf(node)) {
                case 'w':
                    work.put(offset, value & 255);
                    work.put(offset + 1, value >> 8);
                    break;
                case 'W':
                    work.put(offset, value >> 8);
                    work.put(offset + 1, value & 255);
                    break;
                case 'n':
                    int shift = read.shiftOf(node);
                    int others = work.get(offset) & ~(read.greatest(node) << shift);
                    work.put(offset, others | value << shift);
                    break;
                default:
                    work.put(offset, value);
            }
        }

        /** Puts bytes into a string or an array; what they are is left to the caller. */
        boolean putIn(Reader read, int owner, int place, int count) {
            Nodes table = read.table;
            // a file that would be too long is refused in the end: so all lengths fit here
            if (work.length + count > FILE_LIMIT) {
                return false;
            }
            for (int k = 0; k < table.count; k++) {
                if (table.kind[k] == REFERENCE && table.value[k] >= place) {
                    if (table.value[k] + count > REFERENCE_LIMIT) {
                        return false;
                    }
                    write(read, k, table.value[k] + count);
                }
            }
            tellNewLengths(read, owner, count, 1);
            return work.open(place, count);
        }

        void takeOut(Reader read, int owner, int place, int count) {
            Nodes table = read.table;
            for (int k = 0; k < table.count; k++) {
                if (table.kind[k] == REFERENCE && table.value[k] > place) {
                    write(read, k, Math.max(table.value[k] - count, place));
                }
            }
            tellNewLengths(read, owner, -count, -1);
            work.close(place, count);
        }

        /** Tells the lengths of all that has the string or the array in it, and how many elements the array has. */
        private void tellNewLengths(Reader read, int owner, int bytes, int elements) {
            Nodes table = read.table;
            for (int k = 0; k < table.count; k++) {
                int relation = read.relationOf(k);
                int other = read.otherOf(k);
                if (relation == '#' && table.holds(other, owner)) {
                    write(read, k, table.length[other] + bytes);
                }
                if (relation == '%' && other == owner) {
                    write(read, k, table.value[other] + elements);
                }
            }
        }

        /** Sets all lengths and counts right, in some rounds, behind which one more must find them right. */
        boolean settleCounts(Reader read, Template by) {
            for (int k = 0; k <= ROUNDS; k++) {
                if (!read.readAt(by, work, 0, 0)) {
                    return false;
                }
                if (mendCounts(read) == 0) {
                    return true;
                }
            }
            return false;
        }

        private int mendCounts(Reader read) {
            int mended = 0;
            for (int k = 0; k < read.table.count; k++) {
                int relation = read.relationOf(k);
                int due = read.dueOf(k);
                if ((relation == '#' || relation == '%') && read.table.value[k] != due) {
                    write(read, k, due);
                    mended++;
                }
            }
            return mended;
        }

        /** Sets all check sums right, each one behind those that lie in its field. */
        boolean settleSums(Reader read) {
            Nodes table = read.table;
            int left = 0;
            for (int k = 0; k < table.count; k++) {
                int relation = read.relationOf(k);
                isLeft[k] = relation == '+' || relation == '^';
                left += isLeft[k] ? 1 : 0;
            }
            for (int k = left; k > 0; k--) {
                int next = firstReady(read);
                if (next == NONE) {
                    return false;
                }
                write(read, next, read.dueOf(next));
                isLeft[next] = false;
            }
            return true;
        }

        private int firstReady(Reader read) {
            for (int k = 0; k < read.table.count; k++) {
                if (isLeft[k] && !hasLeftIn(read.table, read.otherOf(k))) {
                    return k;
                }
            }
            return NONE;
        }

        /** The nodes in a node are those behind it, as long as they lie in its bytes. */
        private boolean hasLeftIn(Nodes table, int outer) {
            for (int k = outer; table.has(k) && table.offset[k] < table.offset[outer] + table.length[outer]; k++) {
                if (isLeft[k]) {
                    return true;
                }
            }
            return false;
        }

        boolean stands(Reader read, Template by) {
            return read.readAt(by, work, 0, 0) && read.countWrong() == 0;
        }
    }
}
