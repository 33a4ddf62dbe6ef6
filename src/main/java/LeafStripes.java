import java.util.NoSuchElementException;

/** Column striping of nested records; the promises stand in the project's document. */
public final class LeafStripes {
    public static final int NONE = -1;

    private static final int ONE = 0;
    private static final int MAYBE = 1;
    private static final int MANY = 2;

    private static final int MAX_TAPE = 700;
    private static final int MAX_FIELDS = 16;
    private static final int MAX_LEAVES = 8;
    private static final int MAX_LETTERS = 4;
    /** Groups in groups; a field stands at most this deep, counted from 0. */
    private static final int MAX_OPEN = 3;
    private static final int MAX_RECORDS = 30;
    private static final int MAX_ENTRIES = 120;
    private static final int MAX_DIGITS = 3;
    private static final int MAX_VALUE = 999;
    private static final int MAX_LEVEL = 9;
    private static final int MAX_STEPS = 8;
    private static final int MAX_ACTS = 40;
    private static final int MAX_YEARS = 10;
    /** A view shows all that it has. */
    private static final int ALL_LEAVES = (1 << MAX_LEAVES) - 1;

    private static final int FAULT_TOKEN = 1;
    private static final int FAULT_TOO_MUCH = 2;
    private static final int FAULT_VIEW = 3;
    private static final int FAULT_NAME = 4;

    private final Text text;
    private final ShapeText shapeText;
    private final RecordText recordText;
    private final Check checker;
    private final Teller teller;
    private final Years drawer;
    private final State now;
    private final State kept;
    private Shape ownShape;
    private Shape viewShape;
    private Shape spareShape;
    private Pipe ownPipe;
    private Pipe sparePipe;
    private boolean imaged;
    private int faultPlace;

    public LeafStripes() {
        text = new Text();
        shapeText = new ShapeText();
        recordText = new RecordText();
        checker = new Check();
        teller = new Teller();
        drawer = new Years();
        now = new State();
        kept = new State();
        ownShape = new Shape();
        viewShape = new Shape();
        spareShape = new Shape();
        ownPipe = new Pipe();
        sparePipe = new Pipe();
        imaged = false;
        faultPlace = NONE;
    }

    // ---- texts ----

    public int feed(int a, int b, int c, int d, int e) {
        if (text.size + 20 > MAX_TAPE) {
            return NONE;
        }
        text.append(a);
        text.append(b);
        text.append(c);
        text.append(d);
        text.append(e);
        return text.size;
    }

    public int schema(int n) throws IllegalArgumentException {
        needTape(n);
        text.open(n);
        int fault = shapeText.read(text, spareShape, spareShape, false);
        if (noteFault(fault)) {
            return fault;
        }
        Shape old = ownShape;
        ownShape = spareShape;
        spareShape = old;
        viewShape.clear();
        ownPipe.clear();
        now.clear(ownShape);
        imaged = false;
        return 0;
    }

    public int add(int n) throws IllegalArgumentException {
        needTape(n);
        text.open(n);
        if (ownShape.fieldCount == 0 || isWrong()) {
            return refuse();
        }
        int fault = recordText.read(text, ownShape, now);
        if (noteFault(fault)) {
            return fault;
        }
        now.addStaged(recordText.records, recordText.sizes, ownShape.leafCount);
        return 0;
    }

    public int view(int n) throws IllegalArgumentException {
        needTape(n);
        text.open(n);
        int fault = shapeText.read(text, spareShape, ownShape, true);
        if (noteFault(fault)) {
            return fault;
        }
        Shape old = viewShape;
        viewShape = spareShape;
        spareShape = old;
        return 0;
    }

    public int pipe(int n) throws IllegalArgumentException {
        needTape(n);
        text.open(n);
        int fault = sparePipe.read(text);
        if (noteFault(fault)) {
            return fault;
        }
        Pipe old = ownPipe;
        ownPipe = sparePipe;
        sparePipe = old;
        return 0;
    }

    public int fault() {
        return faultPlace;
    }

    // ---- what there is ----

    public int count(int what) throws NoSuchElementException {
        switch (what) {
            case 0: return ownShape.fieldCount;
            case 1: return ownShape.leafCount;
            case 2: return now.records;
            case 3: return now.entriesOfAll(ownShape.leafCount);
            case 4: return ownShape.greatestOfLeaves(ownShape.def);
            case 5: return ownShape.greatestOfLeaves(ownShape.rep);
            case 6: return viewShape.fieldCount;
            case 7: return ownPipe.steps;
            case 8: return ownShape.cover();
            case 14: return now.actCount;
            case 15: return text.size;
            case 16: return now.refusedTexts;
            case 17: return now.refusedActs;
            default: return countChecked(what);
        }
    }

    public int field(int field, int what) throws NoSuchElementException {
        needField(field);
        switch (what) {
            case 0: return ownShape.kind[field];
            case 1: return ownShape.leafAt[field];
            case 2: return ownShape.group[field];
            case 3: return ownShape.def[field];
            case 4: return ownShape.rep[field];
            case 5: return ownShape.letters[field];
            case 6: return ownShape.inside[field];
            default: throw new NoSuchElementException("no such what");
        }
    }

    public int name(int field, int i) throws NoSuchElementException {
        needField(field);
        if (i < 0 || i >= ownShape.letters[field]) {
            throw new NoSuchElementException("no such letter");
        }
        return ownShape.names[field * MAX_LETTERS + i];
    }

    public int leaf(int leaf, int what) throws NoSuchElementException {
        needLeaf(leaf);
        int field = ownShape.fieldOf[leaf];
        Column column = now.columns[leaf];
        switch (what) {
            case 0: return field;
            case 1: return column.size;
            case 2: return column.runsOf(column.rep);
            case 3: return column.runsOf(column.def);
            case 4: return binaryDigits(ownShape.rep[field]);
            case 5: return binaryDigits(ownShape.def[field]);
            default: throw new NoSuchElementException("no such what");
        }
    }

    public int entry(int leaf, int entry, int what) throws NoSuchElementException {
        needEntry(leaf, entry);
        Column column = now.columns[leaf];
        switch (what) {
            case 0: return column.rep[entry];
            case 1: return column.def[entry];
            case 2: return column.hasValue(entry) ? column.value[entry] : NONE;
            default: throw new NoSuchElementException("no such what");
        }
    }

    public int skip(int leaf, int record, int what) throws NoSuchElementException {
        needLeaf(leaf);
        needRecord(record);
        if (what != 0 && what != 1) {
            throw new NoSuchElementException("no such what");
        }
        Column column = now.columns[leaf];
        int first = column.firstOf(record);
        if (first == NONE || what == 0) {
            return first;
        }
        return column.behind(first, 0) - first;
    }

    // ---- the machine, what is told and seen ----

    public int next(int set, int leaf, int level) throws NoSuchElementException, IllegalArgumentException {
        if (leaf < 0 || leaf > 31 || (set >>> leaf & 1) == 0) {
            throw new NoSuchElementException("the leaf isn't in the set");
        }
        needSet(set);
        if (level < 0 || level > ownShape.rep[ownShape.fieldOf[leaf]]) {
            throw new IllegalArgumentException("no such level");
        }
        return ownShape.leafAfter(set, leaf, level);
    }

    public int length(int record, int set) throws NoSuchElementException, IllegalArgumentException {
        needRecord(record);
        needSet(set);
        if (isWrong()) {
            return NONE;
        }
        return teller.tell(ownShape, ownShape, now, record, set, NONE);
    }

    public int sign(int record, int set, int i) throws NoSuchElementException, IllegalArgumentException {
        needRecord(record);
        needSet(set);
        if (i < 0 || isWrong() || i >= teller.tell(ownShape, ownShape, now, record, set, i)) {
            throw new NoSuchElementException("no such byte");
        }
        return teller.found;
    }

    public int reads(int record, int set) throws NoSuchElementException, IllegalArgumentException {
        needRecord(record);
        needSet(set);
        if (isWrong()) {
            return NONE;
        }
        return teller.countReads(ownShape, now, record, set);
    }

    public int seen(int record) throws NoSuchElementException {
        needRecord(record);
        if (viewShape.fieldCount == 0 || isWrong()) {
            return NONE;
        }
        return teller.tell(viewShape, ownShape, now, record, ALL_LEAVES, NONE);
    }

    public int seenSign(int record, int i) throws NoSuchElementException {
        needRecord(record);
        if (i < 0 || viewShape.fieldCount == 0 || isWrong()
                || i >= teller.tell(viewShape, ownShape, now, record, ALL_LEAVES, i)) {
            throw new NoSuchElementException("no such byte");
        }
        return teller.found;
    }

    // ---- values ----

    public int fold(int leaf, int how) throws NoSuchElementException {
        needLeaf(leaf);
        if (how < 0 || how > 7) {
            throw new NoSuchElementException("no such fold");
        }
        return now.columns[leaf].folded(how);
    }

    public int picked(int leaf, int how, int value) throws NoSuchElementException {
        needLeaf(leaf);
        if (how < 0 || how > 3) {
            throw new NoSuchElementException("no such pick");
        }
        Column column = now.columns[leaf];
        int bits = 0;
        for (int record = 0; record < now.records; record++) {
            int first = column.firstOf(record);
            if (first != NONE && column.fits(first, column.behind(first, 0), how, value)) {
                bits |= 1 << record;
            }
        }
        return bits;
    }

    public int pages(int leaf, int size) throws NoSuchElementException, IllegalArgumentException {
        needLeaf(leaf);
        if (size < 1 || size > MAX_ENTRIES) {
            throw new IllegalArgumentException("no such size of a page");
        }
        return now.columns[leaf].pageCount(size);
    }

    public int piped(int leaf, int i) throws NoSuchElementException {
        needLeaf(leaf);
        int many = ownPipe.run(now.columns[leaf]);
        if (i == NONE) {
            return many;
        }
        if (i < 0 || i >= many) {
            throw new NoSuchElementException("no such value");
        }
        return ownPipe.out[i];
    }

    // ---- acts ----

    public int drop() {
        if (now.records == 0 || isWrong()) {
            return refuse();
        }
        now.keep(new Act(Act.DROPPED, 0, 0, 0, now.tailRow(ownShape.leafCount)));
        now.cutLastRecord(ownShape.leafCount);
        return now.records;
    }

    public int set(int leaf, int entry, int value) throws NoSuchElementException {
        needEntry(leaf, entry);
        Column column = now.columns[leaf];
        int old = column.value[entry];
        if (!column.hasValue(entry) || value < 0 || value > MAX_VALUE || value == old) {
            return refuse();
        }
        now.keep(new Act(Act.VALUE, leaf, entry, old, null));
        column.value[entry] = value;
        return old;
    }

    public int damage(int leaf, int entry, int what, int number) throws NoSuchElementException {
        needEntry(leaf, entry);
        if (what != 0 && what != 1) {
            throw new NoSuchElementException("no such what");
        }
        Column column = now.columns[leaf];
        int[] row = what == 0 ? column.rep : column.def;
        int old = row[entry];
        if (number < 0 || number > MAX_LEVEL || number == old) {
            return refuse();
        }
        now.keep(new Act(what == 0 ? Act.REP : Act.DEF, leaf, entry, old, null));
        row[entry] = number;
        return old;
    }

    public int undo() {
        if (now.actCount == 0) {
            return NONE;
        }
        now.undoLast(ownShape.leafCount);
        return now.actCount;
    }

    public int years(int seed, int n, int what) throws NoSuchElementException, IllegalArgumentException {
        if (what < 0 || what > 2) {
            throw new NoSuchElementException("no such what");
        }
        if (n < 0 || n > MAX_YEARS) {
            throw new IllegalArgumentException("no such number of years");
        }
        if (ownShape.fieldCount == 0 || isWrong()) {
            return 0;
        }
        drawer.run(ownShape, now, seed, n);
        if (what == 0) {
            return drawer.records;
        }
        return what == 1 ? drawer.valueSum : drawer.entrySum();
    }

    public void image() {
        kept.copyFrom(now);
        imaged = true;
    }

    public boolean restore() {
        if (!imaged) {
            return false;
        }
        now.copyFrom(kept);
        return true;
    }

    // ---- what the calls share ----

    private void needTape(int n) {
        if (n < 0 || n > text.size) {
            throw new IllegalArgumentException("the tape has not so many bytes");
        }
    }

    private void needField(int field) {
        if (field < 0 || field >= ownShape.fieldCount) {
            throw new NoSuchElementException("no such field");
        }
    }

    private void needLeaf(int leaf) {
        if (leaf < 0 || leaf >= ownShape.leafCount) {
            throw new NoSuchElementException("no such leaf");
        }
    }

    private void needEntry(int leaf, int entry) {
        needLeaf(leaf);
        if (entry < 0 || entry >= now.columns[leaf].size) {
            throw new NoSuchElementException("no such entry");
        }
    }

    private void needRecord(int record) {
        if (record < 0 || record >= now.records) {
            throw new NoSuchElementException("no such record");
        }
    }

    private void needSet(int set) {
        if (set <= 0 || set >>> ownShape.leafCount != 0) {
            throw new IllegalArgumentException("no such set of leaves");
        }
    }

    private boolean isWrong() {
        return checker.run(ownShape, now) != 0;
    }

    private int refuse() {
        now.refusedActs++;
        return NONE;
    }

    private boolean noteFault(int fault) {
        if (fault == 0) {
            faultPlace = NONE;
            return false;
        }
        faultPlace = text.start;
        now.refusedTexts++;
        return true;
    }

    private int countChecked(int what) {
        if (what < 9 || what > 13) {
            throw new NoSuchElementException("no such what");
        }
        int wrong = checker.run(ownShape, now);
        if (what == 9) {
            return wrong;
        }
        if (what == 10) {
            return checker.wrongLeaf;
        }
        if (what == 11) {
            return checker.wrongEntry;
        }
        checker.weigh();
        return what == 12 ? checker.harmless : checker.firstHarmless;
    }

    private static int binaryDigits(int number) {
        int digits = 0;
        for (int left = number; left > 0; left >>= 1) {
            digits++;
        }
        return digits;
    }

    /** The least number of a bit that is there. */
    private static int lowestBit(int bits) {
        for (int i = 0; i < 32; i++) {
            if ((bits >>> i & 1) != 0) {
                return i;
            }
        }
        return NONE;
    }

    /** The tape, and a text on it that is read token by token. */
    private static final class Text {
        static final int END = 0;
        static final int WORD = 1;
        static final int NUMBER = 2;
        static final int WRONG = 3;

        final int[] bytes = new int[MAX_TAPE];
        int size;
        int limit;
        /** END, WORD, NUMBER, WRONG, or the sign itself. */
        int token;
        int start;
        int end;

        void append(int four) {
            for (int shift = 24; shift >= 0 && size < MAX_TAPE; shift -= 8) {
                bytes[size] = four >>> shift & 255;
                size++;
            }
        }

        /** The tape is empty from here on, but its bytes stay to be read until the next feed. */
        void open(int n) {
            limit = n;
            size = 0;
            end = 0;
            advance();
        }

        void advance() {
            start = end;
            for (int i = start; i < limit && (bytes[i] == 32 || bytes[i] == 10); i++) {
                start = i + 1;
            }
            end = start;
            if (start >= limit) {
                token = END;
                return;
            }
            int first = bytes[start];
            end = start + 1;
            if (isLetter(first)) {
                token = WORD;
                for (int i = end; i < limit && isLetter(bytes[i]); i++) {
                    end = i + 1;
                }
            } else if (isDigit(first)) {
                token = NUMBER;
                for (int i = end; i < limit && isDigit(bytes[i]); i++) {
                    end = i + 1;
                }
            } else {
                token = isSign(first) ? first : WRONG;
            }
        }

        private static boolean isLetter(int b) {
            return b >= 'a' && b <= 'z';
        }

        private static boolean isDigit(int b) {
            return b >= '0' && b <= '9';
        }

        private static boolean isSign(int b) {
            return b == ';' || b == '{' || b == '}' || b == '(' || b == ')' || b == '[' || b == ']' || b == '-';
        }

        int width() {
            return end - start;
        }

        boolean isWord(String word) {
            if (token != WORD || word.length() != width()) {
                return false;
            }
            for (int i = 0; i < word.length(); i++) {
                if (bytes[start + i] != word.charAt(i)) {
                    return false;
                }
            }
            return true;
        }

        /** A NUMBER must stand here, of few digits: else the fault. */
        int numberFault() {
            if (token != NUMBER) {
                return FAULT_TOKEN;
            }
            return width() > MAX_DIGITS ? FAULT_TOO_MUCH : 0;
        }

        int number() {
            int number = 0;
            for (int i = start; i < end && i < start + MAX_DIGITS; i++) {
                number = number * 10 + bytes[i] - '0';
            }
            return number;
        }
    }

    /** The fields of a schema, or of a view. */
    private static final class Shape {
        int fieldCount;
        int leafCount;
        final int[] kind = new int[MAX_FIELDS];
        final int[] group = new int[MAX_FIELDS];
        final int[] leafAt = new int[MAX_FIELDS];
        final int[] def = new int[MAX_FIELDS];
        final int[] rep = new int[MAX_FIELDS];
        final int[] letters = new int[MAX_FIELDS];
        final int[] names = new int[MAX_FIELDS * MAX_LETTERS];
        /** How many fields stand in a group. */
        final int[] inside = new int[MAX_FIELDS];
        /** The leaves in a field (or itself), as bits. */
        final int[] leaves = new int[MAX_FIELDS];
        /** Which field of the schema this one is; in a schema each is itself. */
        final int[] twin = new int[MAX_FIELDS];
        final int[] fieldOf = new int[MAX_LEAVES];

        void clear() {
            fieldCount = 0;
            leafCount = 0;
        }

        int openField(int kindTold, int around) {
            int field = fieldCount;
            kind[field] = kindTold;
            group[field] = around;
            leafAt[field] = NONE;
            def[field] = kindTold == ONE ? 0 : 1;
            rep[field] = kindTold == MANY ? 1 : 0;
            if (around != NONE) {
                def[field] += def[around];
                rep[field] += rep[around];
                inside[around]++;
            }
            letters[field] = 0;
            inside[field] = 0;
            leaves[field] = 0;
            twin[field] = NONE;
            fieldCount++;
            return field;
        }

        void makeLeaf(int field) {
            leafAt[field] = leafCount;
            fieldOf[leafCount] = field;
            int around = field;
            for (int i = 0; i < MAX_FIELDS && around != NONE; i++) {
                leaves[around] |= 1 << leafCount;
                around = group[around];
            }
            leafCount++;
        }

        void putName(int field, Text text) {
            for (int i = 0; i < text.width() && i < MAX_LETTERS; i++) {
                names[field * MAX_LETTERS + i] = text.bytes[text.start + i];
                letters[field] = i + 1;
            }
        }

        boolean hasNameOf(int field, Shape other, int othersField) {
            if (letters[field] != other.letters[othersField]) {
                return false;
            }
            for (int i = 0; i < letters[field]; i++) {
                if (names[field * MAX_LETTERS + i] != other.names[othersField * MAX_LETTERS + i]) {
                    return false;
                }
            }
            return true;
        }

        /** The first field of a group (NONE: in none) that is named as a field of the other shape. */
        int fieldNamed(int around, Shape other, int othersField) {
            for (int i = 0; i < fieldCount; i++) {
                if (group[i] == around && hasNameOf(i, other, othersField)) {
                    return i;
                }
            }
            return NONE;
        }

        int innermostAround(int leaf, int otherLeaf) {
            int around = group[fieldOf[leaf]];
            for (int i = 0; i < MAX_FIELDS && around != NONE; i++) {
                if ((leaves[around] >>> otherLeaf & 1) != 0) {
                    return around;
                }
                around = group[around];
            }
            return NONE;
        }

        int levelOf(int leaf, int otherLeaf) {
            int around = innermostAround(leaf, otherLeaf);
            return around == NONE ? 0 : rep[around];
        }

        int manyAround(int leaf, int level) {
            int around = fieldOf[leaf];
            for (int i = 0; i < MAX_FIELDS && around != NONE; i++) {
                if (kind[around] == MANY && rep[around] == level) {
                    return around;
                }
                around = group[around];
            }
            return NONE;
        }

        int leafAfter(int set, int leaf, int level) {
            int behind = lowestBit(set & -2 << leaf);
            int shared = behind == NONE ? 0 : levelOf(leaf, behind);
            if (level <= shared) {
                return behind;
            }
            int many = manyAround(leaf, level);
            return many == NONE ? NONE : lowestBit(set & leaves[many]);
        }

        int greatestOfLeaves(int[] row) {
            int greatest = 0;
            for (int i = 0; i < leafCount; i++) {
                greatest = Math.max(greatest, row[fieldOf[i]]);
            }
            return greatest;
        }

        int cover() {
            int best = (1 << leafCount) - 1;
            for (int set = best; set >= 0; set--) {
                // going down, of as many the least comes last
                if (Integer.bitCount(set) <= Integer.bitCount(best) && tellsShapes(set)) {
                    best = set;
                }
            }
            return best;
        }

        private boolean tellsShapes(int set) {
            for (int i = 0; i < fieldCount; i++) {
                if (kind[i] != ONE && (leaves[i] & set) == 0) {
                    return false;
                }
            }
            return true;
        }
    }

    /** Reads a schema, or a view of one. */
    private static final class ShapeText {
        private Text text;
        private Shape out;
        private Shape base;
        private boolean viewing;
        private int open;
        private int depth;

        int read(Text source, Shape target, Shape schema, boolean asView) {
            text = source;
            out = target;
            base = schema;
            viewing = asView;
            open = NONE;
            depth = 0;
            out.clear();
            for (int i = 0; i <= MAX_TAPE; i++) {
                if (text.token == Text.END) {
                    return open == NONE && out.fieldCount > 0 ? 0 : FAULT_TOKEN;
                }
                int fault = text.token == '}' ? readClose() : readField();
                if (fault != 0) {
                    return fault;
                }
                text.advance();
            }
            return FAULT_TOKEN;
        }

        private int readClose() {
            if (open == NONE || out.inside[open] == 0) {
                return FAULT_TOKEN;
            }
            open = out.group[open];
            depth--;
            return 0;
        }

        /** From the kind up to the sign behind the name; what stands in a group follows as fields of its own. */
        private int readField() {
            int kind = kindTold();
            if (kind == NONE) {
                return FAULT_TOKEN;
            }
            if (out.fieldCount >= MAX_FIELDS) {
                return FAULT_TOO_MUCH;
            }
            int field = out.openField(kind, open);
            text.advance();
            int fault = readName(field);
            if (fault != 0) {
                return fault;
            }
            text.advance();
            return readLeafOrGroup(field);
        }

        private int kindTold() {
            if (text.isWord("one")) {
                return ONE;
            }
            if (text.isWord("maybe")) {
                return MAYBE;
            }
            return text.isWord("many") ? MANY : NONE;
        }

        private int readName(int field) {
            if (text.token != Text.WORD) {
                return FAULT_TOKEN;
            }
            if (text.width() > MAX_LETTERS) {
                return FAULT_TOO_MUCH;
            }
            out.putName(field, text);
            if (!findTwin(field)) {
                return FAULT_VIEW;
            }
            return out.fieldNamed(open, out, field) < field ? FAULT_NAME : 0;
        }

        /** False: the view can't have such a field. */
        private boolean findTwin(int field) {
            if (!viewing) {
                out.twin[field] = field;
                return true;
            }
            int around = open == NONE ? NONE : out.twin[open];
            if (open != NONE && around == NONE) {
                // all in a group that is none of the schema is as new as the group
                return true;
            }
            int twin = base.fieldNamed(around, out, field);
            out.twin[field] = twin;
            int kind = out.kind[field];
            if (twin == NONE) {
                return kind != ONE;
            }
            return base.kind[twin] == kind || base.kind[twin] == ONE && kind == MAYBE;
        }

        private int readLeafOrGroup(int field) {
            int twin = viewing ? out.twin[field] : NONE;
            if (text.token == ';') {
                if (out.leafCount >= MAX_LEAVES) {
                    return FAULT_TOO_MUCH;
                }
                out.makeLeaf(field);
                return twin != NONE && base.leafAt[twin] == NONE ? FAULT_VIEW : 0;
            }
            if (text.token != '{') {
                return FAULT_TOKEN;
            }
            if (depth >= MAX_OPEN) {
                return FAULT_TOO_MUCH;
            }
            open = field;
            depth++;
            return twin != NONE && base.leafAt[twin] != NONE ? FAULT_VIEW : 0;
        }
    }

    /** The entries of one leaf. */
    private static final class Column {
        final int[] rep = new int[MAX_ENTRIES];
        final int[] def = new int[MAX_ENTRIES];
        /** Kept, unseen, also where an entry has no value. */
        final int[] value = new int[MAX_ENTRIES];
        int size;
        /** The DEF of the leaf: an entry of it has a value. */
        int full;

        void put(int entry, int repTold, int defTold, int valueTold) {
            if (entry >= 0 && entry < MAX_ENTRIES) {
                rep[entry] = repTold;
                def[entry] = defTold;
                value[entry] = valueTold;
            }
        }

        void copyFrom(Column other) {
            System.arraycopy(other.rep, 0, rep, 0, other.size);
            System.arraycopy(other.def, 0, def, 0, other.size);
            System.arraycopy(other.value, 0, value, 0, other.size);
            size = other.size;
            full = other.full;
        }

        /** All of an entry in one number, levels being 0 to 9. */
        int packed(int entry) {
            return value[entry] << 8 | rep[entry] << 4 | def[entry];
        }

        void unpack(int entry, int number) {
            put(entry, number >> 4 & 15, number & 15, number >> 8);
        }

        boolean hasValue(int entry) {
            return def[entry] == full;
        }

        /** The entry of REP 0 behind so many others of REP 0. */
        int firstOf(int record) {
            int ahead = 0;
            for (int i = 0; i < size; i++) {
                if (rep[i] == 0) {
                    if (ahead == record) {
                        return i;
                    }
                    ahead++;
                }
            }
            return NONE;
        }

        int firsts() {
            int many = 0;
            for (int i = 0; i < size; i++) {
                many += rep[i] == 0 ? 1 : 0;
            }
            return many;
        }

        /** The first entry behind this one whose REP is that level or less; the size without. */
        int behind(int entry, int level) {
            for (int i = entry + 1; i < size; i++) {
                if (rep[i] <= level) {
                    return i;
                }
            }
            return size;
        }

        int runsOf(int[] row) {
            int runs = 0;
            for (int i = 0; i < size; i++) {
                runs += i == 0 || row[i] != row[i - 1] ? 1 : 0;
            }
            return runs;
        }

        int folded(int how) {
            switch (how) {
                case 0: return valueCount();
                case 1: return valueSum();
                case 2: return least();
                case 3: return greatest();
                case 4: return unlikeCount();
                case 5: return size - valueCount();
                default: return rolled(how == 6);
            }
        }

        private int valueCount() {
            int many = 0;
            for (int i = 0; i < size; i++) {
                many += hasValue(i) ? 1 : 0;
            }
            return many;
        }

        int valueSum() {
            int sum = 0;
            for (int i = 0; i < size; i++) {
                sum += hasValue(i) ? value[i] : 0;
            }
            return sum;
        }

        private int least() {
            int least = NONE;
            for (int i = 0; i < size; i++) {
                if (hasValue(i) && (least == NONE || value[i] < least)) {
                    least = value[i];
                }
            }
            return least;
        }

        private int greatest() {
            int greatest = NONE;
            for (int i = 0; i < size; i++) {
                if (hasValue(i) && value[i] > greatest) {
                    greatest = value[i];
                }
            }
            return greatest;
        }

        private int unlikeCount() {
            int many = 0;
            for (int i = 0; i < size; i++) {
                many += hasValue(i) && !cameAhead(i) ? 1 : 0;
            }
            return many;
        }

        private boolean cameAhead(int entry) {
            for (int i = 0; i < entry; i++) {
                if (hasValue(i) && value[i] == value[entry]) {
                    return true;
                }
            }
            return false;
        }

        private int rolled(boolean byLess) {
            int left = 0;
            for (int i = 0; i < size; i++) {
                if (hasValue(i)) {
                    left = byLess ? value[i] - left : (left * 7 + value[i]) % 1000;
                }
            }
            return left;
        }

        /** Whether the entries of a record, from first up to end, are picked. */
        boolean fits(int first, int end, int how, int told) {
            for (int i = first; i < end; i++) {
                if (hasValue(i)) {
                    if (how == 3) {
                        return false;
                    }
                    if (how == 0 && value[i] == told || how == 1 && value[i] < told || how == 2 && value[i] > told) {
                        return true;
                    }
                }
            }
            return how == 3;
        }

        int pageCount(int pageSize) {
            int pages = 0;
            int room = 0;
            for (int i = 0; i < size; i++) {
                if (rep[i] == 0) {
                    int entries = behind(i, 0) - i;
                    if (entries > pageSize) {
                        return NONE;
                    }
                    if (entries > room) {
                        pages++;
                        room = pageSize;
                    }
                    room -= entries;
                }
            }
            return pages;
        }
    }

    /** What is undone: how it was before. */
    private static final class Act {
        static final int ADDED = 0;
        static final int DROPPED = 1;
        static final int VALUE = 2;
        static final int REP = 3;
        static final int DEF = 4;

        final int kind;
        final int leaf;
        final int entry;
        /** The number that stood there, or how many records came. */
        final int number;
        /** Of a dropped record alone: for each leaf how many entries, and these. */
        final int[] row;

        Act(int kindTold, int leafTold, int entryTold, int numberTold, int[] rowTold) {
            kind = kindTold;
            leaf = leafTold;
            entry = entryTold;
            number = numberTold;
            row = rowTold;
        }
    }

    /** All that an image keeps. */
    private static final class State {
        final Column[] columns = new Column[MAX_LEAVES];
        int records;
        final Act[] acts = new Act[MAX_ACTS];
        int actCount;
        int refusedTexts;
        int refusedActs;

        State() {
            for (int i = 0; i < MAX_LEAVES; i++) {
                columns[i] = new Column();
            }
        }

        /** A new schema leaves no records and no acts; what was refused stays told. */
        void clear(Shape shape) {
            records = 0;
            actCount = 0;
            for (int i = 0; i < MAX_LEAVES; i++) {
                columns[i].size = 0;
                columns[i].full = i < shape.leafCount ? shape.def[shape.fieldOf[i]] : 0;
            }
        }

        void copyFrom(State other) {
            for (int i = 0; i < MAX_LEAVES; i++) {
                columns[i].copyFrom(other.columns[i]);
            }
            records = other.records;
            System.arraycopy(other.acts, 0, acts, 0, other.actCount);
            actCount = other.actCount;
            refusedTexts = other.refusedTexts;
            refusedActs = other.refusedActs;
        }

        int entriesOfAll(int leafCount) {
            int many = 0;
            for (int i = 0; i < leafCount; i++) {
                many += columns[i].size;
            }
            return many;
        }

        void keep(Act act) {
            if (actCount >= MAX_ACTS) {
                System.arraycopy(acts, 1, acts, 0, MAX_ACTS - 1);
                actCount = MAX_ACTS - 1;
            }
            acts[actCount] = act;
            actCount++;
        }

        /** The entries stand behind the columns' ends already. */
        void addStaged(int recordsThen, int[] sizes, int leafCount) {
            keep(new Act(Act.ADDED, 0, 0, recordsThen - records, null));
            records = recordsThen;
            for (int i = 0; i < leafCount; i++) {
                columns[i].size = sizes[i];
            }
        }

        /** The last record's entries, for the act that drops it. */
        int[] tailRow(int leafCount) {
            int many = leafCount;
            for (int i = 0; i < leafCount; i++) {
                many += columns[i].size - lastFirst(i);
            }
            int[] row = new int[many];
            int at = 0;
            for (int i = 0; i < leafCount; i++) {
                Column column = columns[i];
                int first = lastFirst(i);
                row[at] = column.size - first;
                at++;
                for (int k = first; k < column.size; k++) {
                    row[at] = column.packed(k);
                    at++;
                }
            }
            return row;
        }

        private int lastFirst(int leaf) {
            int first = columns[leaf].firstOf(records - 1);
            return first == NONE ? columns[leaf].size : first;
        }

        void cutLastRecord(int leafCount) {
            for (int i = 0; i < leafCount; i++) {
                columns[i].size = lastFirst(i);
            }
            records--;
        }

        private void bringBack(int[] row, int leafCount) {
            int at = 0;
            for (int i = 0; i < leafCount && at < row.length; i++) {
                Column column = columns[i];
                int end = at + row[at];
                for (at = at + 1; at <= end && at < row.length && column.size < MAX_ENTRIES; at++) {
                    column.unpack(column.size, row[at]);
                    column.size++;
                }
            }
            records++;
        }

        void undoLast(int leafCount) {
            if (actCount <= 0 || actCount > MAX_ACTS) {
                return;
            }
            actCount--;
            Act act = acts[actCount];
            if (act == null) {
                return;
            }
            if (act.kind == Act.ADDED) {
                // all that came later is undone already, so these are the last ones, whole
                for (int i = 0; i < act.number; i++) {
                    cutLastRecord(leafCount);
                }
            } else if (act.kind == Act.DROPPED) {
                if (act.row != null) {
                    bringBack(act.row, leafCount);
                }
            } else {
                Column column = columns[act.leaf];
                int[] row = act.kind == Act.VALUE ? column.value : act.kind == Act.REP ? column.rep : column.def;
                row[act.entry] = act.number;
            }
        }
    }

    /** Reads records and walks them; what comes is staged behind the columns' ends. */
    private static final class RecordText {
        final int[] sizes = new int[MAX_LEAVES];
        int records;
        private Text text;
        private Shape shape;
        private State state;
        private int fault;

        int read(Text source, Shape schema, State target) {
            text = source;
            shape = schema;
            state = target;
            fault = 0;
            records = target.records;
            for (int i = 0; i < shape.leafCount; i++) {
                sizes[i] = target.columns[i].size;
            }
            for (int i = 0; i <= MAX_TAPE; i++) {
                if (text.token == Text.END) {
                    return i == 0 ? FAULT_TOKEN : 0;
                }
                if (records >= MAX_RECORDS) {
                    return canBegin(0) ? FAULT_TOO_MUCH : FAULT_TOKEN;
                }
                if (!readFields(NONE, 0, 0, 0) || !readEnd()) {
                    return fault;
                }
            }
            return FAULT_TOKEN;
        }

        private boolean readEnd() {
            if (text.token != ';') {
                return fail(FAULT_TOKEN);
            }
            for (int i = 0; i < shape.leafCount; i++) {
                if (sizes[i] > MAX_ENTRIES) {
                    return fail(FAULT_TOO_MUCH);
                }
            }
            records++;
            text.advance();
            return true;
        }

        private boolean fail(int number) {
            fault = number;
            return false;
        }

        /** Whether the token can be the first one of a field. */
        private boolean canBegin(int field) {
            if (shape.kind[field] == MANY) {
                return text.token == '[';
            }
            if (shape.kind[field] == MAYBE && text.token == '-') {
                return true;
            }
            return text.token == (shape.leafAt[field] == NONE ? '(' : Text.NUMBER);
        }

        private boolean readFields(int around, int depth, int r, int d) {
            if (depth > MAX_OPEN) {
                return fail(FAULT_TOKEN);
            }
            for (int i = 0; i < shape.fieldCount; i++) {
                if (shape.group[i] == around && !readField(i, depth, r, d)) {
                    return false;
                }
            }
            return true;
        }

        private boolean readField(int field, int depth, int r, int d) {
            if (!canBegin(field)) {
                return fail(FAULT_TOKEN);
            }
            if (shape.kind[field] == ONE) {
                return readItem(field, depth, r, d);
            }
            if (shape.kind[field] == MANY) {
                return readItems(field, depth, r, d);
            }
            if (text.token != '-') {
                return readItem(field, depth, r, d + 1);
            }
            text.advance();
            putNone(field, r, d);
            return true;
        }

        private boolean readItems(int field, int depth, int r, int d) {
            text.advance();
            if (text.token == ']') {
                putNone(field, r, d);
            }
            for (int i = 0; i <= MAX_TAPE && text.token != ']'; i++) {
                if (!readItem(field, depth, i == 0 ? r : shape.rep[field], d + 1)) {
                    return false;
                }
            }
            text.advance();
            return true;
        }

        private boolean readItem(int field, int depth, int r, int d) {
            int leaf = shape.leafAt[field];
            if (leaf != NONE) {
                int wrong = text.numberFault();
                if (wrong != 0) {
                    return fail(wrong);
                }
                stage(leaf, r, d, text.number());
                text.advance();
                return true;
            }
            if (text.token != '(') {
                return fail(FAULT_TOKEN);
            }
            text.advance();
            if (!readFields(field, depth + 1, r, d)) {
                return false;
            }
            if (text.token != ')') {
                return fail(FAULT_TOKEN);
            }
            text.advance();
            return true;
        }

        private void putNone(int field, int r, int d) {
            for (int i = 0; i < shape.leafCount; i++) {
                if ((shape.leaves[field] >>> i & 1) != 0) {
                    stage(i, r, d, 0);
                }
            }
        }

        /** Beyond the row's end entries are counted alone: the record's ';' is the fault then. */
        private void stage(int leaf, int r, int d, int value) {
            state.columns[leaf].put(sizes[leaf], r, d, value);
            sizes[leaf]++;
        }
    }

    /** Finds the first level that is wrong, and which damage would not be found. */
    private static final class Check {
        int wrong;
        int wrongLeaf;
        int wrongEntry;
        int harmless;
        int firstHarmless;
        private Shape shape;
        private State state;

        int run(Shape schema, State target) {
            shape = schema;
            state = target;
            wrong = 0;
            wrongLeaf = NONE;
            wrongEntry = NONE;
            for (int leaf = 0; leaf < shape.leafCount && wrong == 0; leaf++) {
                checkColumn(leaf);
                if (wrong == 0 && leaf > 0) {
                    checkWithAhead(leaf);
                }
            }
            return wrong;
        }

        private void note(int what, int leaf, int entry) {
            wrong = what;
            wrongLeaf = leaf;
            wrongEntry = entry;
        }

        private void checkColumn(int leaf) {
            Column column = state.columns[leaf];
            for (int i = 0; i < column.size; i++) {
                int what = wrongAt(leaf, i);
                if (what != 0) {
                    note(what, leaf, i);
                    return;
                }
            }
            if (column.firsts() != state.records) {
                note(4, leaf, column.size);
            }
        }

        private int wrongAt(int leaf, int entry) {
            Column column = state.columns[leaf];
            int rep = column.rep[entry];
            int field = shape.fieldOf[leaf];
            if (rep > shape.rep[field] || entry == 0 && rep != 0) {
                return 1;
            }
            if (column.def[entry] > shape.def[field]) {
                return 2;
            }
            int need = needOf(leaf, rep);
            return column.def[entry] < need || entry > 0 && column.def[entry - 1] < need ? 3 : 0;
        }

        /** An entry that repeats at this level, and the one ahead, must be there down to this. */
        private int needOf(int leaf, int rep) {
            int many = rep > 0 ? shape.manyAround(leaf, rep) : NONE;
            return many == NONE ? 0 : shape.def[many];
        }

        private void checkWithAhead(int leaf) {
            Column mine = state.columns[leaf];
            Column other = state.columns[leaf - 1];
            int level = shape.levelOf(leaf, leaf - 1);
            int most = mostShared(leaf, leaf - 1);
            int fellow = other.behind(NONE, level);
            for (int i = 0; i < mine.size; i++) {
                if (mine.rep[i] <= level) {
                    if (fellow >= other.size || mine.rep[i] != other.rep[fellow]
                            || Math.min(mine.def[i], most) != Math.min(other.def[fellow], most)) {
                        note(5, leaf, i);
                        return;
                    }
                    fellow = other.behind(fellow, level);
                }
            }
            if (fellow < other.size) {
                note(5, leaf, mine.size);
            }
        }

        /** Down to which DEF two leaves must agree. */
        private int mostShared(int leaf, int otherLeaf) {
            int around = shape.innermostAround(leaf, otherLeaf);
            return around == NONE ? 0 : shape.def[around];
        }

        /** Behind run(): as nothing is wrong now, one other number is judged by what stands around it alone. */
        void weigh() {
            harmless = 0;
            firstHarmless = NONE;
            if (wrong != 0) {
                return;
            }
            for (int leaf = 0; leaf < shape.leafCount; leaf++) {
                int field = shape.fieldOf[leaf];
                for (int i = 0; i < state.columns[leaf].size; i++) {
                    for (int number = 0; number <= shape.rep[field]; number++) {
                        weighOne(repIsHarmless(leaf, i, number), leaf * 10000 + i * 20 + number);
                    }
                    for (int number = 0; number <= shape.def[field]; number++) {
                        weighOne(defIsHarmless(leaf, i, number), leaf * 10000 + i * 20 + 10 + number);
                    }
                }
            }
        }

        private void weighOne(boolean isHarmless, int code) {
            if (isHarmless) {
                harmless++;
                if (firstHarmless == NONE) {
                    firstHarmless = code;
                }
            }
        }

        private boolean repIsHarmless(int leaf, int entry, int number) {
            Column column = state.columns[leaf];
            int old = column.rep[entry];
            // a 0 that comes or goes makes another number of records
            if (number == old || number == 0 || old == 0 || entry == 0) {
                return false;
            }
            int need = needOf(leaf, number);
            if (column.def[entry] < need || column.def[entry - 1] < need) {
                return false;
            }
            // a neighbour tells it, if it has or had a fellow there
            int lower = Math.min(old, number);
            return (leaf == 0 || lower > shape.levelOf(leaf, leaf - 1))
                    && (leaf + 1 >= shape.leafCount || lower > shape.levelOf(leaf, leaf + 1));
        }

        private boolean defIsHarmless(int leaf, int entry, int number) {
            Column column = state.columns[leaf];
            if (number == column.def[entry] || number < needOf(leaf, column.rep[entry])) {
                return false;
            }
            if (entry + 1 < column.size && number < needOf(leaf, column.rep[entry + 1])) {
                return false;
            }
            return (leaf == 0 || looksAlike(leaf, leaf - 1, entry, number))
                    && (leaf + 1 >= shape.leafCount || looksAlike(leaf, leaf + 1, entry, number));
        }

        private boolean looksAlike(int leaf, int otherLeaf, int entry, int number) {
            Column column = state.columns[leaf];
            int most = mostShared(leaf, otherLeaf);
            return column.rep[entry] > shape.levelOf(leaf, otherLeaf)
                    || Math.min(number, most) == Math.min(column.def[entry], most);
        }
    }

    /** Tells a record again; nothing is wrong with the columns then. */
    private static final class Teller {
        /** The byte that was wanted. */
        int found;
        private int wanted;
        private int told;
        private int set;
        private Shape shape;
        private Shape base;
        private State state;
        /** By depth and leaf: the entry with which the item that is told begins. */
        private final int[][] at = new int[MAX_OPEN + 2][MAX_LEAVES];

        /** By the fields of one shape (the schema itself, or a view of it): how many bytes. */
        int tell(Shape telling, Shape schema, State source, int record, int setTold, int byteWanted) {
            shape = telling;
            base = schema;
            state = source;
            set = setTold;
            wanted = byteWanted;
            told = 0;
            found = NONE;
            goTo(record);
            tellFields(NONE, 0);
            put(';');
            return told;
        }

        private void goTo(int record) {
            for (int i = 0; i < base.leafCount; i++) {
                at[0][i] = state.columns[i].firstOf(record);
            }
        }

        private void put(int sign) {
            if (told == wanted) {
                found = sign;
            }
            told++;
        }

        private void tellFields(int around, int depth) {
            boolean first = true;
            for (int i = 0; i < shape.fieldCount; i++) {
                if (shape.group[i] == around && (shape.leaves[i] & set) != 0) {
                    if (!first) {
                        put(' ');
                    }
                    first = false;
                    tellField(i, depth);
                }
            }
        }

        private void tellField(int field, int depth) {
            int own = shape.twin[field];
            int kind = own == NONE ? shape.kind[field] : base.kind[own];
            boolean there = own != NONE && depth <= MAX_OPEN && isThere(own, depth);
            if (kind == MANY) {
                put('[');
                if (there) {
                    tellItems(field, own, depth);
                }
                put(']');
            } else if (there) {
                beginAt(own, depth);
                tellItem(field, own, depth);
            } else {
                put('-');
            }
        }

        private boolean isThere(int own, int depth) {
            int leaf = lowestBit(base.leaves[own]);
            return leaf != NONE && has(leaf, at[depth][leaf])
                    && state.columns[leaf].def[at[depth][leaf]] >= base.def[own];
        }

        private boolean has(int leaf, int entry) {
            return entry >= 0 && entry < state.columns[leaf].size;
        }

        /** The first item of a field begins with the item around it. */
        private void beginAt(int own, int depth) {
            for (int i = 0; i < base.leafCount; i++) {
                if ((base.leaves[own] >>> i & 1) != 0) {
                    at[depth + 1][i] = at[depth][i];
                }
            }
        }

        private void tellItems(int field, int own, int depth) {
            int leaf = lowestBit(base.leaves[own]);
            beginAt(own, depth);
            tellItem(field, own, depth);
            for (int i = 0; i < MAX_ENTRIES && goOn(own, leaf, depth + 1); i++) {
                put(' ');
                tellItem(field, own, depth);
            }
        }

        /** To the next item of a field, in each leaf of it by levels alone; false: there is none. */
        private boolean goOn(int own, int firstLeaf, int depth) {
            int level = base.rep[own];
            for (int i = 0; i < base.leafCount; i++) {
                if ((base.leaves[own] >>> i & 1) != 0) {
                    at[depth][i] = state.columns[i].behind(at[depth][i], level);
                }
            }
            int entry = at[depth][firstLeaf];
            return has(firstLeaf, entry) && state.columns[firstLeaf].rep[entry] == level;
        }

        private void tellItem(int field, int own, int depth) {
            int leaf = base.leafAt[own];
            if (leaf == NONE) {
                put('(');
                tellFields(field, depth + 1);
                put(')');
            } else if (has(leaf, at[depth + 1][leaf])) {
                putNumber(state.columns[leaf].value[at[depth + 1][leaf]]);
            }
        }

        private void putNumber(int number) {
            if (number >= 100) {
                put('0' + number / 100);
            }
            if (number >= 10) {
                put('0' + number / 10 % 10);
            }
            put('0' + number % 10);
        }

        /** Goes as the machine goes: how many entries it reads. */
        int countReads(Shape schema, State source, int record, int setTold) {
            base = schema;
            state = source;
            goTo(record);
            int reads = 0;
            int leaf = lowestBit(setTold);
            for (int i = 0; i < MAX_LEAVES * MAX_ENTRIES && leaf != NONE; i++) {
                reads++;
                at[0][leaf]++;
                int entry = at[0][leaf];
                int level = has(leaf, entry) ? state.columns[leaf].rep[entry] : 0;
                leaf = base.leafAfter(setTold, leaf, level);
            }
            return reads;
        }
    }

    /** Steps that values go through. */
    private static final class Pipe {
        private static final int PLUS = 0;
        private static final int TIMES = 1;
        private static final int MOD = 2;
        private static final int LESS = 3;
        private static final int MORE = 4;
        private static final int FIRST = 5;
        private static final int GAP = 6;

        int steps;
        final int[] out = new int[MAX_ENTRIES];
        private int outCount;
        private final int[] kind = new int[MAX_STEPS];
        private final int[] number = new int[MAX_STEPS];
        /** How many values came to a step. */
        private final int[] came = new int[MAX_STEPS];

        void clear() {
            steps = 0;
        }

        int read(Text text) {
            steps = 0;
            for (int i = 0; i <= MAX_TAPE && text.token != Text.END; i++) {
                int fault = readStep(text);
                if (fault != 0) {
                    return fault;
                }
                text.advance();
            }
            return 0;
        }

        private int readStep(Text text) {
            int told = kindTold(text);
            if (told == NONE) {
                return FAULT_TOKEN;
            }
            if (steps >= MAX_STEPS) {
                return FAULT_TOO_MUCH;
            }
            text.advance();
            int fault = text.numberFault();
            if (fault != 0) {
                return fault;
            }
            if (told == MOD && text.number() == 0) {
                return FAULT_TOO_MUCH;
            }
            kind[steps] = told;
            number[steps] = text.number();
            steps++;
            text.advance();
            return text.token == ';' ? 0 : FAULT_TOKEN;
        }

        private static int kindTold(Text text) {
            if (text.isWord("plus")) {
                return PLUS;
            }
            if (text.isWord("times")) {
                return TIMES;
            }
            if (text.isWord("mod")) {
                return MOD;
            }
            if (text.isWord("less")) {
                return LESS;
            }
            if (text.isWord("more")) {
                return MORE;
            }
            if (text.isWord("first")) {
                return FIRST;
            }
            return text.isWord("gap") ? GAP : NONE;
        }

        /** How many values of the column come out. */
        int run(Column column) {
            outCount = 0;
            for (int i = 0; i < MAX_STEPS; i++) {
                came[i] = 0;
            }
            for (int i = 0; i < column.size; i++) {
                if (column.hasValue(i)) {
                    send(column.value[i]);
                }
            }
            return outCount;
        }

        private void send(int value) {
            int now = value;
            for (int i = 0; i < steps; i++) {
                if (!goesOn(i, now)) {
                    return;
                }
                now = changed(i, now);
            }
            if (outCount < MAX_ENTRIES) {
                out[outCount] = now;
                outCount++;
            }
        }

        private boolean goesOn(int step, int value) {
            int ahead = came[step];
            came[step]++;
            switch (kind[step]) {
                case LESS: return value < number[step];
                case MORE: return value > number[step];
                case FIRST: return ahead < number[step];
                case GAP: return ahead % (number[step] + 1) == 0;
                default: return true;
            }
        }

        private int changed(int step, int value) {
            int by = number[step];
            switch (kind[step]) {
                case PLUS: return value + by;
                case TIMES: return value * by;
                case MOD: return by == 0 ? value : value % by;
                default: return value;
            }
        }
    }

    /** Draws records by a seed, and keeps nothing of them but how many there would be. */
    private static final class Years {
        int records;
        int valueSum;
        private final int[] sizes = new int[MAX_LEAVES];
        /** Of the record that is drawn. */
        private final int[] drawn = new int[MAX_LEAVES];
        private int drawnSum;
        private int seed;
        private Shape shape;

        void run(Shape schema, State state, int seedTold, int n) {
            shape = schema;
            seed = seedTold;
            records = state.records;
            valueSum = 0;
            for (int i = 0; i < MAX_LEAVES; i++) {
                sizes[i] = i < shape.leafCount ? state.columns[i].size : 0;
                valueSum += i < shape.leafCount ? state.columns[i].valueSum() : 0;
            }
            for (int i = 0; i < n; i++) {
                drawRecord();
                if (records < MAX_RECORDS && hasRoom()) {
                    takeRecord();
                }
            }
        }

        int entrySum() {
            int sum = 0;
            for (int i = 0; i < MAX_LEAVES; i++) {
                sum += sizes[i];
            }
            return sum;
        }

        private void drawRecord() {
            drawnSum = 0;
            for (int i = 0; i < MAX_LEAVES; i++) {
                drawn[i] = 0;
            }
            drawFields(NONE, 0);
        }

        private boolean hasRoom() {
            for (int i = 0; i < MAX_LEAVES; i++) {
                if (sizes[i] + drawn[i] > MAX_ENTRIES) {
                    return false;
                }
            }
            return true;
        }

        private void takeRecord() {
            records++;
            valueSum += drawnSum;
            for (int i = 0; i < MAX_LEAVES; i++) {
                sizes[i] += drawn[i];
            }
        }

        private int draw(int n) {
            seed = seed * 1103515245 + 12345;
            return n > 0 ? (seed >>> 16 & 32767) % n : 0;
        }

        private void drawFields(int around, int depth) {
            if (depth > MAX_OPEN) {
                return;
            }
            for (int i = 0; i < shape.fieldCount; i++) {
                if (shape.group[i] == around) {
                    drawField(i, depth);
                }
            }
        }

        private void drawField(int field, int depth) {
            int items = 1;
            if (shape.kind[field] != ONE) {
                items = draw(shape.kind[field] == MAYBE ? 2 : 3);
            }
            for (int i = 0; i < items; i++) {
                drawItem(field, depth);
            }
            if (items == 0) {
                for (int i = 0; i < shape.leafCount; i++) {
                    drawn[i] += shape.leaves[field] >>> i & 1;
                }
            }
        }

        private void drawItem(int field, int depth) {
            int leaf = shape.leafAt[field];
            if (leaf == NONE) {
                drawFields(field, depth + 1);
            } else {
                drawnSum += draw(100);
                drawn[leaf]++;
            }
        }
    }
}
