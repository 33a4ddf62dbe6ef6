import java.util.ArrayList;
import java.util.Arrays;
import java.util.HashSet;
import java.util.LinkedHashMap;
import java.util.List;
import java.util.Map;
import java.util.NoSuchElementException;
import java.util.Set;
import java.util.TreeSet;

/**
 * The document once more, written as literally and as unlike the program as possible: lists, trees and
 * snapshots, no thrift. ModelTests compares both, call by call.
 */
final class Model {
    static final int NONE = -1;

    static final class Fault extends RuntimeException {
        private static final long serialVersionUID = 1L;
        final int code;
        final int place;

        Fault(int code, int place) {
            super("fault " + code + " at " + place, null, false, false);
            this.code = code;
            this.place = place;
        }
    }

    static final class Token {
        final String text;
        final int place;
        final char type; // w word, n number, s sign, x none, e end

        Token(String text, int place, char type) {
            this.text = text;
            this.place = place;
            this.type = type;
        }
    }

    static final class Field {
        int index;
        int kind;
        String name;
        Field group;
        int leaf = NONE;
        Field twin;
        final List<Field> fields = new ArrayList<>();

        List<Field> path() {
            List<Field> path = group == null ? new ArrayList<>() : group.path();
            path.add(this);
            return path;
        }

        int def() {
            return (int) path().stream().filter(f -> f.kind != 0).count();
        }

        int rep() {
            return (int) path().stream().filter(f -> f.kind == 2).count();
        }

        boolean isIn(Field other) {
            return path().contains(other);
        }
    }

    static final class Tree {
        final List<Field> all = new ArrayList<>();
        final List<Field> top = new ArrayList<>();
        final List<Field> leaves = new ArrayList<>();
    }

    static final class Entry {
        int rep;
        int def;
        int value;

        Entry(int rep, int def, int value) {
            this.rep = rep;
            this.def = def;
            this.value = value;
        }
    }

    /** What an image keeps; acts are the states ahead of them. */
    static final class World {
        List<List<Entry>> columns = new ArrayList<>();
        int records;
        List<World> before = new ArrayList<>();
        int[] status = new int[2];

        World copy() {
            World w = new World();
            for (List<Entry> column : columns) {
                List<Entry> c = new ArrayList<>();
                for (Entry e : column) {
                    c.add(new Entry(e.rep, e.def, e.value));
                }
                w.columns.add(c);
            }
            w.records = records;
            w.before = new ArrayList<>(before);
            w.status = status.clone();
            return w;
        }
    }

    private final List<Integer> tape = new ArrayList<>();
    private Tree schema = new Tree();
    private Tree view;
    private List<String[]> steps = new ArrayList<>();
    private World now = new World();
    private World image;
    private int faultPlace = NONE;

    // ---- tokens ----

    private List<Token> tokens;
    private int at;

    private void cut(int n) {
        tokens = new ArrayList<>();
        StringBuilder sb = new StringBuilder();
        for (int i = 0; i < n; i++) {
            sb.append((char) (int) tape.get(i));
        }
        String s = sb.toString();
        java.util.regex.Matcher m = java.util.regex.Pattern
                .compile("([a-z]+)|([0-9]+)|([;{}()\\[\\]\\-])|([ \\n])|([\\x00-\\xff])", java.util.regex.Pattern.DOTALL).matcher(s);
        while (m.find()) {
            if (m.group(4) != null) {
                continue;
            }
            char type = m.group(1) != null ? 'w' : m.group(2) != null ? 'n' : m.group(3) != null ? 's' : 'x';
            tokens.add(new Token(m.group(), m.start(), type));
        }
        tokens.add(new Token("", n, 'e'));
        at = 0;
        tape.clear();
    }

    private Token peek() {
        return tokens.get(at);
    }

    private Fault fault(int code) {
        return new Fault(code, peek().place);
    }

    private boolean is(String sign) {
        return (peek().type == 's' || peek().type == 'w') && peek().text.equals(sign);
    }

    private void need(String sign) {
        if (!is(sign)) {
            throw fault(1);
        }
        at++;
    }

    private void needTape(int n) {
        if (n < 0 || n > tape.size()) {
            throw new IllegalArgumentException();
        }
    }

    // ---- schema, view ----

    private Tree readTree(Tree base) {
        Tree tree = new Tree();
        readFieldsOf(tree, null, base, 0);
        while (peek().type != 'e') {
            readFieldsOf(tree, null, base, 0);
        }
        return tree;
    }

    private void readFieldsOf(Tree tree, Field group, Tree base, int open) {
        int kind = List.of("one", "maybe", "many").indexOf(peek().text);
        if (peek().type != 'w' || kind < 0) {
            throw fault(1);
        }
        if (tree.all.size() == 16) {
            throw fault(2);
        }
        at++;
        Field f = new Field();
        f.index = tree.all.size();
        f.kind = kind;
        f.group = group;
        readNameOf(f, tree, group, base);
        List<Field> siblings = group == null ? tree.top : group.fields;
        siblings.add(f);
        tree.all.add(f);
        if (is(";")) {
            if (tree.leaves.size() == 8) {
                throw fault(2);
            }
            if (base != null && f.twin != null && f.twin.leaf == NONE) {
                throw fault(3);
            }
            f.leaf = tree.leaves.size();
            tree.leaves.add(f);
            at++;
        } else if (is("{")) {
            if (open == 3) {
                throw fault(2);
            }
            if (base != null && f.twin != null && f.twin.leaf != NONE) {
                throw fault(3);
            }
            at++;
            readFieldsOf(tree, f, base, open + 1);
            while (!is("}")) {
                readFieldsOf(tree, f, base, open + 1);
            }
            at++;
        } else {
            throw fault(1);
        }
    }

    private void readNameOf(Field f, Tree tree, Field group, Tree base) {
        if (peek().type != 'w') {
            throw fault(1);
        }
        if (peek().text.length() > 4) {
            throw fault(2);
        }
        f.name = peek().text;
        if (base != null && (group == null || group.twin != null)) {
            for (Field other : group == null ? base.top : group.twin.fields) {
                if (other.name.equals(f.name)) {
                    f.twin = other;
                }
            }
            if (f.twin == null ? f.kind == 0 : f.twin.kind != f.kind && !(f.twin.kind == 0 && f.kind == 1)) {
                throw fault(3);
            }
        }
        for (Field other : group == null ? tree.top : group.fields) {
            if (other.name.equals(f.name)) {
                throw fault(4);
            }
        }
        at++;
    }

    int feed(int a, int b, int c, int d, int e) {
        if (tape.size() + 20 > 700) {
            return NONE;
        }
        java.nio.ByteBuffer buffer = java.nio.ByteBuffer.allocate(20);
        buffer.putInt(a).putInt(b).putInt(c).putInt(d).putInt(e);
        for (byte x : buffer.array()) {
            tape.add(x & 255);
        }
        return tape.size();
    }

    int schema(int n) {
        needTape(n);
        cut(n);
        try {
            schema = readTree(null);
        } catch (Fault f) {
            return refuseText(f);
        }
        faultPlace = NONE;
        view = null;
        steps = new ArrayList<>();
        image = null;
        int[] status = now.status;
        now = new World();
        now.status = status;
        for (int i = 0; i < schema.leaves.size(); i++) {
            now.columns.add(new ArrayList<>());
        }
        return 0;
    }

    private int refuseText(Fault f) {
        faultPlace = f.place;
        now.status[0]++;
        return f.code;
    }

    private int refuse() {
        now.status[1]++;
        return NONE;
    }

    int view(int n) {
        needTape(n);
        cut(n);
        try {
            view = readTree(schema);
        } catch (Fault f) {
            return refuseText(f);
        }
        faultPlace = NONE;
        return 0;
    }

    int pipe(int n) {
        needTape(n);
        cut(n);
        List<String[]> read = new ArrayList<>();
        try {
            while (peek().type != 'e') {
                String word = peek().text;
                if (!List.of("plus", "times", "mod", "less", "more", "first", "gap").contains(word)) {
                    throw fault(1);
                }
                if (read.size() == 8) {
                    throw fault(2);
                }
                at++;
                if (peek().type != 'n') {
                    throw fault(1);
                }
                String number = peek().text;
                if (number.length() > 3 || word.equals("mod") && Integer.parseInt(number) == 0) {
                    throw fault(2);
                }
                at++;
                need(";");
                read.add(new String[] {word, number});
            }
        } catch (Fault f) {
            return refuseText(f);
        }
        faultPlace = NONE;
        steps = read;
        return 0;
    }

    int fault() {
        return faultPlace;
    }

    // ---- records ----

    /** An item is an Integer or a map; a field has a list of items (none, one or many). */
    private Object readItem(Field f) {
        if (f.leaf != NONE) {
            if (peek().type != 'n') {
                throw fault(1);
            }
            if (peek().text.length() > 3) {
                throw fault(2);
            }
            int v = Integer.parseInt(peek().text);
            at++;
            return v;
        }
        need("(");
        Map<Field, List<Object>> values = readValues(f.fields);
        need(")");
        return values;
    }

    private Map<Field, List<Object>> readValues(List<Field> fields) {
        Map<Field, List<Object>> values = new LinkedHashMap<>();
        for (Field f : fields) {
            List<Object> items = new ArrayList<>();
            if (f.kind == 0) {
                items.add(readItem(f));
            } else if (f.kind == 1) {
                if (is("-")) {
                    at++;
                } else {
                    items.add(readItem(f));
                }
            } else {
                need("[");
                while (!is("]")) {
                    items.add(readItem(f));
                }
                at++;
            }
            values.put(f, items);
        }
        return values;
    }

    @SuppressWarnings("unchecked")
    private void walk(List<Field> fields, Map<Field, List<Object>> values, int r, int d, List<List<Entry>> columns) {
        for (Field f : fields) {
            List<Object> items = values.get(f);
            if (items.isEmpty()) {
                for (Field leaf : schema.leaves) {
                    if (leaf.isIn(f)) {
                        columns.get(leaf.leaf).add(new Entry(r, d, 0));
                    }
                }
            }
            for (int i = 0; i < items.size(); i++) {
                int ri = i == 0 ? r : f.rep();
                int di = f.kind == 0 ? d : d + 1;
                if (f.leaf != NONE) {
                    columns.get(f.leaf).add(new Entry(ri, di, (Integer) items.get(i)));
                } else {
                    walk(f.fields, (Map<Field, List<Object>>) items.get(i), ri, di, columns);
                }
            }
        }
    }

    int add(int n) {
        needTape(n);
        cut(n);
        if (schema.all.isEmpty() || check()[0] != 0) {
            return refuse();
        }
        World next = now.copy();
        try {
            do {
                if (next.records == 30) {
                    Token first = peek();
                    int was = at;
                    try {
                        readValues(schema.top.subList(0, 1));
                    } catch (Fault f) {
                        at = was;
                        if (f.place == first.place && f.code == 1) {
                            throw f;
                        }
                    }
                    throw new Fault(2, first.place);
                }
                Map<Field, List<Object>> values = readValues(schema.top);
                if (!is(";")) {
                    throw fault(1);
                }
                walk(schema.top, values, 0, 0, next.columns);
                for (List<Entry> column : next.columns) {
                    if (column.size() > 120) {
                        throw fault(2);
                    }
                }
                at++;
                next.records++;
            } while (peek().type != 'e');
        } catch (Fault f) {
            return refuseText(f);
        }
        faultPlace = NONE;
        act();
        now.columns = next.columns;
        now.records = next.records;
        return 0;
    }

    private void act() {
        World w = now.copy();
        w.before = null;
        now.before.add(w);
        if (now.before.size() > 40) {
            now.before.remove(0);
        }
    }

    // ---- check ----

    private Field innermost(Field a, Field b) {
        Field common = null;
        for (Field g : a.path()) {
            if (g.leaf == NONE && b.isIn(g)) {
                common = g;
            }
        }
        return common;
    }

    private int level(Field a, Field b) {
        Field g = innermost(a, b);
        return g == null ? 0 : g.rep();
    }

    private Field manyAround(Field leaf, int rep) {
        for (Field f : leaf.path()) {
            if (f.kind == 2 && f.rep() == rep) {
                return f;
            }
        }
        throw new AssertionError("no many field");
    }

    private int[] check() {
        for (Field leaf : schema.leaves) {
            List<Entry> c = now.columns.get(leaf.leaf);
            for (int i = 0; i < c.size(); i++) {
                Entry e = c.get(i);
                int what = 0;
                if (e.rep > leaf.rep() || i == 0 && e.rep != 0) {
                    what = 1;
                } else if (e.def > leaf.def()) {
                    what = 2;
                } else if (e.rep > 0) {
                    int need = manyAround(leaf, e.rep).def();
                    what = e.def < need || c.get(i - 1).def < need ? 3 : 0;
                }
                if (what != 0) {
                    return new int[] {what, leaf.leaf, i};
                }
            }
            if (c.stream().filter(e -> e.rep == 0).count() != now.records) {
                return new int[] {4, leaf.leaf, c.size()};
            }
            if (leaf.leaf > 0) {
                int wrong = unlike(leaf, schema.leaves.get(leaf.leaf - 1));
                if (wrong != NONE) {
                    return new int[] {5, leaf.leaf, wrong};
                }
            }
        }
        return new int[] {0, NONE, NONE};
    }

    private int unlike(Field leaf, Field ahead) {
        int level = level(leaf, ahead);
        Field g = innermost(leaf, ahead);
        int most = g == null ? 0 : g.def();
        List<Integer> mine = places(leaf, level);
        List<Integer> others = places(ahead, level);
        for (int k = 0; k < mine.size(); k++) {
            Entry a = now.columns.get(leaf.leaf).get(mine.get(k));
            if (k >= others.size()) {
                return mine.get(k);
            }
            Entry b = now.columns.get(ahead.leaf).get(others.get(k));
            if (a.rep != b.rep || Math.min(a.def, most) != Math.min(b.def, most)) {
                return mine.get(k);
            }
        }
        return others.size() > mine.size() ? now.columns.get(leaf.leaf).size() : NONE;
    }

    private List<Integer> places(Field leaf, int level) {
        List<Integer> places = new ArrayList<>();
        List<Entry> c = now.columns.get(leaf.leaf);
        for (int i = 0; i < c.size(); i++) {
            if (c.get(i).rep <= level) {
                places.add(i);
            }
        }
        return places;
    }

    private List<Integer> harmless() {
        List<Integer> codes = new ArrayList<>();
        if (check()[0] != 0) {
            return codes;
        }
        for (Field leaf : schema.leaves) {
            List<Entry> c = now.columns.get(leaf.leaf);
            for (int i = 0; i < c.size(); i++) {
                Entry e = c.get(i);
                int rep = e.rep;
                int def = e.def;
                for (int x = 0; x <= leaf.rep(); x++) {
                    e.rep = x;
                    if (x != rep && check()[0] == 0) {
                        codes.add(leaf.leaf * 10000 + i * 20 + x);
                    }
                }
                e.rep = rep;
                for (int x = 0; x <= leaf.def(); x++) {
                    e.def = x;
                    if (x != def && check()[0] == 0) {
                        codes.add(leaf.leaf * 10000 + i * 20 + 10 + x);
                    }
                }
                e.def = def;
            }
        }
        return codes;
    }

    private int cover() {
        int best = NONE;
        for (int set = 0; set < 1 << schema.leaves.size(); set++) {
            boolean all = true;
            for (Field f : schema.all) {
                boolean has = false;
                for (Field leaf : schema.leaves) {
                    has |= (set >> leaf.leaf & 1) != 0 && leaf.isIn(f);
                }
                all &= has || f.kind == 0;
            }
            if (all && (best == NONE || Integer.bitCount(set) < Integer.bitCount(best))) {
                best = set;
            }
        }
        return best;
    }

    int count(int what) {
        switch (what) {
            case 0: return schema.all.size();
            case 1: return schema.leaves.size();
            case 2: return now.records;
            case 3: return now.columns.stream().mapToInt(List::size).sum();
            case 4: return schema.leaves.stream().mapToInt(Field::def).max().orElse(0);
            case 5: return schema.leaves.stream().mapToInt(Field::rep).max().orElse(0);
            case 6: return view == null ? 0 : view.all.size();
            case 7: return steps.size();
            case 8: return cover();
            case 9: case 10: case 11: return check()[what - 9];
            case 12: return harmless().size();
            case 13: return harmless().isEmpty() ? NONE : harmless().get(0);
            case 14: return now.before.size();
            case 15: return tape.size();
            case 16: case 17: return now.status[what - 16];
            default: throw new NoSuchElementException();
        }
    }

    int field(int field, int what) {
        Field f = pick(schema.all, field);
        switch (what) {
            case 0: return f.kind;
            case 1: return f.leaf;
            case 2: return f.group == null ? NONE : f.group.index;
            case 3: return f.def();
            case 4: return f.rep();
            case 5: return f.name.length();
            case 6: return f.fields.size();
            default: throw new NoSuchElementException();
        }
    }

    private static <T> T pick(List<T> list, int i) {
        if (i < 0 || i >= list.size()) {
            throw new NoSuchElementException();
        }
        return list.get(i);
    }

    int name(int field, int i) {
        String name = pick(schema.all, field).name;
        if (i < 0 || i >= name.length()) {
            throw new NoSuchElementException();
        }
        return name.charAt(i);
    }

    private List<Entry> column(int leaf) {
        return pick(now.columns, leaf);
    }

    int leaf(int leaf, int what) {
        List<Entry> c = column(leaf);
        Field f = schema.leaves.get(leaf);
        List<Integer> row = new ArrayList<>();
        int runs = 0;
        switch (what) {
            case 0: return f.index;
            case 1: return c.size();
            case 2: case 3:
                for (Entry e : c) {
                    int x = what == 2 ? e.rep : e.def;
                    if (row.isEmpty() || row.get(row.size() - 1) != x) {
                        runs++;
                    }
                    row.add(x);
                }
                return runs;
            case 4: return f.rep() == 0 ? 0 : Integer.toBinaryString(f.rep()).length();
            case 5: return f.def() == 0 ? 0 : Integer.toBinaryString(f.def()).length();
            default: throw new NoSuchElementException();
        }
    }

    int entry(int leaf, int entry, int what) {
        Entry e = pick(column(leaf), entry);
        switch (what) {
            case 0: return e.rep;
            case 1: return e.def;
            case 2: return e.def == schema.leaves.get(leaf).def() ? e.value : NONE;
            default: throw new NoSuchElementException();
        }
    }

    private void needRecord(int record) {
        if (record < 0 || record >= now.records) {
            throw new NoSuchElementException();
        }
    }

    /** The records of a leaf, as places of their entries. */
    private List<List<Integer>> split(int leaf) {
        List<List<Integer>> parts = new ArrayList<>();
        List<Entry> c = column(leaf);
        for (int i = 0; i < c.size(); i++) {
            if (c.get(i).rep == 0) {
                parts.add(new ArrayList<>());
            }
            if (!parts.isEmpty()) {
                parts.get(parts.size() - 1).add(i);
            }
        }
        return parts;
    }

    int skip(int leaf, int record, int what) {
        column(leaf);
        needRecord(record);
        if (what < 0 || what > 1) {
            throw new NoSuchElementException();
        }
        List<List<Integer>> parts = split(leaf);
        if (record >= parts.size()) {
            return NONE;
        }
        return what == 0 ? parts.get(record).get(0) : parts.get(record).size();
    }

    // ---- machine ----

    private void needSet(int set) {
        if (set == 0 || (set & -(1 << schema.leaves.size())) != 0) {
            throw new IllegalArgumentException();
        }
    }

    private List<Field> members(int set) {
        List<Field> members = new ArrayList<>();
        for (Field leaf : schema.leaves) {
            if ((set >> leaf.leaf & 1) != 0) {
                members.add(leaf);
            }
        }
        return members;
    }

    int next(int set, int leaf, int x) {
        if (leaf < 0 || leaf > 31 || (set & 1 << leaf) == 0) {
            throw new NoSuchElementException();
        }
        needSet(set);
        Field f = schema.leaves.get(leaf);
        if (x < 0 || x > f.rep()) {
            throw new IllegalArgumentException();
        }
        List<Field> members = members(set);
        int place = members.indexOf(f);
        Field behind = place + 1 < members.size() ? members.get(place + 1) : null;
        if (x <= (behind == null ? 0 : level(f, behind))) {
            return behind == null ? NONE : behind.leaf;
        }
        Field many = manyAround(f, x);
        for (Field m : members) {
            if (m.isIn(many)) {
                return m.leaf;
            }
        }
        throw new AssertionError();
    }

    /** The machine's run over a record: pairs of leaf and entry. */
    private List<int[]> run(int record, int set) {
        int[] place = new int[8];
        for (Field leaf : members(set)) {
            place[leaf.leaf] = split(leaf.leaf).get(record).get(0);
        }
        List<int[]> read = new ArrayList<>();
        int leaf = members(set).get(0).leaf;
        while (leaf != NONE) {
            read.add(new int[] {leaf, place[leaf]});
            place[leaf]++;
            List<Entry> c = now.columns.get(leaf);
            leaf = next(set, leaf, place[leaf] < c.size() ? c.get(place[leaf]).rep : 0);
        }
        return read;
    }

    /** Builds the record by what the machine reads, entry by entry, along each leaf's path. */
    @SuppressWarnings("unchecked")
    private Map<Field, List<Object>> build(int record, int set) {
        Map<Field, List<Object>> root = new LinkedHashMap<>();
        List<Field> members = members(set);
        for (int[] step : run(record, set)) {
            Field leaf = schema.leaves.get(step[0]);
            Entry e = now.columns.get(step[0]).get(step[1]);
            Map<Field, List<Object>> here = root;
            for (Field f : leaf.path()) {
                List<Object> items = here.computeIfAbsent(f, k -> new ArrayList<>());
                if (e.def < f.def()) {
                    break;
                }
                boolean opens = members.stream().filter(m -> m.isIn(f)).findFirst().get() == leaf;
                boolean again = f.kind == 2 && opens && e.rep <= f.rep() && (e.rep == f.rep() || items.isEmpty());
                if (f.leaf != NONE) {
                    items.add(e.value);
                } else {
                    if (items.isEmpty() || again) {
                        items.add(new LinkedHashMap<Field, List<Object>>());
                    }
                    here = (Map<Field, List<Object>>) items.get(items.size() - 1);
                }
            }
        }
        return root;
    }

    @SuppressWarnings("unchecked")
    private String tell(List<Field> fields, Map<Field, List<Object>> values, int set, boolean byView) {
        List<String> parts = new ArrayList<>();
        for (Field f : fields) {
            Field own = byView ? f.twin : f;
            if (!byView && members(set).stream().noneMatch(m -> m.isIn(f))) {
                continue;
            }
            List<Object> items = own == null ? List.of() : values.get(own);
            List<String> told = new ArrayList<>();
            for (Object item : items) {
                told.add(f.leaf != NONE ? String.valueOf(item)
                        : "(" + tell(f.fields, (Map<Field, List<Object>>) item, set, byView) + ")");
            }
            String joined = String.join(" ", told);
            parts.add(f.kind == 2 ? "[" + joined + "]" : items.isEmpty() ? "-" : joined);
        }
        return String.join(" ", parts);
    }

    String told(int record, int set) {
        return tell(schema.top, build(record, set), set, false) + ";";
    }

    String seenText(int record) {
        int all = (1 << schema.leaves.size()) - 1;
        return tell(view.top, build(record, all), all, true) + ";";
    }

    int length(int record, int set) {
        needRecord(record);
        needSet(set);
        return check()[0] != 0 ? NONE : told(record, set).length();
    }

    private static int byteOf(String s, int i) {
        if (i < 0 || i >= s.length()) {
            throw new NoSuchElementException();
        }
        return s.charAt(i);
    }

    int sign(int record, int set, int i) {
        needRecord(record);
        needSet(set);
        return byteOf(check()[0] != 0 ? "" : told(record, set), i);
    }

    int reads(int record, int set) {
        needRecord(record);
        needSet(set);
        return check()[0] != 0 ? NONE : run(record, set).size();
    }

    int seen(int record) {
        needRecord(record);
        return check()[0] != 0 || view == null ? NONE : seenText(record).length();
    }

    int seenSign(int record, int i) {
        needRecord(record);
        return byteOf(check()[0] != 0 || view == null ? "" : seenText(record), i);
    }

    // ---- values ----

    private List<Integer> values(int leaf) {
        List<Integer> values = new ArrayList<>();
        for (Entry e : column(leaf)) {
            if (e.def == schema.leaves.get(leaf).def()) {
                values.add(e.value);
            }
        }
        return values;
    }

    int fold(int leaf, int how) {
        List<Integer> values = values(leaf);
        int left = 0;
        switch (how) {
            case 0: return values.size();
            case 1: return values.stream().mapToInt(v -> v).sum();
            case 2: return values.isEmpty() ? NONE : new TreeSet<>(values).first();
            case 3: return values.isEmpty() ? NONE : new TreeSet<>(values).last();
            case 4: return new HashSet<>(values).size();
            case 5: return column(leaf).size() - values.size();
            case 6:
                for (int v : values) {
                    left = v - left;
                }
                return left;
            case 7:
                for (int v : values) {
                    left = (left * 7 + v) % 1000;
                }
                return left;
            default: throw new NoSuchElementException();
        }
    }

    int picked(int leaf, int how, int value) {
        List<List<Integer>> parts = split(leaf);
        if (how < 0 || how > 3) {
            throw new NoSuchElementException();
        }
        Set<Integer> picked = new HashSet<>();
        for (int r = 0; r < now.records && r < parts.size(); r++) {
            List<Integer> values = new ArrayList<>();
            for (int i : parts.get(r)) {
                if (entry(leaf, i, 2) != NONE) {
                    values.add(entry(leaf, i, 2));
                }
            }
            boolean yes = how == 0 ? values.contains(value)
                    : how == 1 ? values.stream().anyMatch(v -> v < value)
                    : how == 2 ? values.stream().anyMatch(v -> v > value) : values.isEmpty();
            if (yes) {
                picked.add(r);
            }
        }
        return picked.stream().mapToInt(r -> 1 << r).sum();
    }

    int pages(int leaf, int size) {
        List<List<Integer>> parts = split(leaf);
        if (size < 1 || size > 120) {
            throw new IllegalArgumentException();
        }
        int[] fewest = new int[parts.size() + 1];
        for (int end = 1; end <= parts.size(); end++) {
            fewest[end] = 1000;
            int together = 0;
            for (int begin = end - 1; begin >= 0; begin--) {
                together += parts.get(begin).size();
                if (together <= size) {
                    fewest[end] = Math.min(fewest[end], fewest[begin] + 1);
                }
            }
        }
        return fewest[parts.size()] >= 1000 ? NONE : fewest[parts.size()];
    }

    int piped(int leaf, int i) {
        List<Integer> values = values(leaf);
        for (String[] step : steps) {
            int n = Integer.parseInt(step[1]);
            List<Integer> out = new ArrayList<>();
            for (int k = 0; k < values.size(); k++) {
                int v = values.get(k);
                switch (step[0]) {
                    case "plus": out.add(v + n); break;
                    case "times": out.add(v * n); break;
                    case "mod": out.add(v % n); break;
                    case "less": if (v < n) { out.add(v); } break;
                    case "more": if (v > n) { out.add(v); } break;
                    case "first": if (k < n) { out.add(v); } break;
                    default: if (k % (n + 1) == 0) { out.add(v); } break;
                }
            }
            values = out;
        }
        return i == NONE ? values.size() : pick(values, i);
    }

    // ---- acts ----

    int drop() {
        if (now.records == 0 || check()[0] != 0) {
            return refuse();
        }
        act();
        for (int i = 0; i < now.columns.size(); i++) {
            int first = split(i).get(now.records - 1).get(0);
            now.columns.set(i, new ArrayList<>(now.columns.get(i).subList(0, first)));
        }
        return --now.records;
    }

    int set(int leaf, int entry, int value) {
        int old = entry(leaf, entry, 2);
        if (old == NONE || value < 0 || value > 999 || old == value) {
            return refuse();
        }
        act();
        now.columns.get(leaf).get(entry).value = value;
        return old;
    }

    int damage(int leaf, int entry, int what, int number) {
        if (what != 0 && what != 1) {
            throw new NoSuchElementException();
        }
        int old = entry(leaf, entry, what);
        if (number < 0 || number > 9 || old == number) {
            return refuse();
        }
        act();
        Entry e = now.columns.get(leaf).get(entry);
        if (what == 0) {
            e.rep = number;
        } else {
            e.def = number;
        }
        return old;
    }

    int undo() {
        if (now.before.isEmpty()) {
            return NONE;
        }
        World last = now.before.remove(now.before.size() - 1);
        last.before = List.of();
        World copy = last.copy();
        last.before = null;
        now.columns = copy.columns;
        now.records = copy.records;
        return now.before.size();
    }

    private int seed;

    private int draw(int n) {
        seed = seed * 1103515245 + 12345;
        return (seed >> 16 & 0x7fff) % n;
    }

    private Object drawItem(Field f) {
        return f.leaf != NONE ? (Object) draw(100) : drawValues(f.fields);
    }

    private Map<Field, List<Object>> drawValues(List<Field> fields) {
        Map<Field, List<Object>> values = new LinkedHashMap<>();
        for (Field f : fields) {
            int n = f.kind == 0 ? 1 : draw(f.kind + 1);
            List<Object> items = new ArrayList<>();
            for (int i = 0; i < n; i++) {
                items.add(drawItem(f));
            }
            values.put(f, items);
        }
        return values;
    }

    int years(int start, int n, int what) {
        if (what < 0 || what > 2) {
            throw new NoSuchElementException();
        }
        if (n < 0 || n > 10) {
            throw new IllegalArgumentException();
        }
        if (schema.all.isEmpty() || check()[0] != 0) {
            return 0;
        }
        World was = now.copy();
        seed = start;
        for (int i = 0; i < n; i++) {
            World next = now.copy();
            walk(schema.top, drawValues(schema.top), 0, 0, next.columns);
            next.records++;
            if (next.records <= 30 && next.columns.stream().allMatch(c -> c.size() <= 120)) {
                now = next;
            }
        }
        int answer = what == 0 ? now.records : count(3);
        if (what == 1) {
            answer = 0;
            for (int i = 0; i < now.columns.size(); i++) {
                answer += fold(i, 1);
            }
        }
        now = was;
        return answer;
    }

    void image() {
        image = now.copy();
    }

    boolean restore() {
        if (image == null) {
            return false;
        }
        now = image.copy();
        return true;
    }

    Tree shape() {
        return schema;
    }
}
