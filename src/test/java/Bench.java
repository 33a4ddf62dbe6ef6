/** One LeafStripes under test: texts come as strings, and its calls are counted, as 512 are all that is promised. */
final class Bench {
    static final int NONE = LeafStripes.NONE;
    private static final int MOST_CALLS = 512;

    private final LeafStripes x = new LeafStripes();
    private int calls;

    private LeafStripes used() {
        calls++;
        if (calls > MOST_CALLS) {
            throw new IllegalStateException("the test calls more often than the document promises");
        }
        return x;
    }

    int calls() {
        return calls;
    }

    // ---- the face ----

    int feed(int a, int b, int c, int d, int e) {
        return used().feed(a, b, c, d, e);
    }

    int schema(int n) {
        return used().schema(n);
    }

    int add(int n) {
        return used().add(n);
    }

    int view(int n) {
        return used().view(n);
    }

    int pipe(int n) {
        return used().pipe(n);
    }

    int fault() {
        return used().fault();
    }

    int count(int what) {
        return used().count(what);
    }

    int field(int field, int what) {
        return used().field(field, what);
    }

    int name(int field, int i) {
        return used().name(field, i);
    }

    int leaf(int leaf, int what) {
        return used().leaf(leaf, what);
    }

    int entry(int leaf, int entry, int what) {
        return used().entry(leaf, entry, what);
    }

    int skip(int leaf, int record, int what) {
        return used().skip(leaf, record, what);
    }

    int next(int set, int leaf, int level) {
        return used().next(set, leaf, level);
    }

    int length(int record, int set) {
        return used().length(record, set);
    }

    int sign(int record, int set, int i) {
        return used().sign(record, set, i);
    }

    int reads(int record, int set) {
        return used().reads(record, set);
    }

    int seen(int record) {
        return used().seen(record);
    }

    int seenSign(int record, int i) {
        return used().seenSign(record, i);
    }

    int fold(int leaf, int how) {
        return used().fold(leaf, how);
    }

    int picked(int leaf, int how, int value) {
        return used().picked(leaf, how, value);
    }

    int pages(int leaf, int size) {
        return used().pages(leaf, size);
    }

    int piped(int leaf, int i) {
        return used().piped(leaf, i);
    }

    int drop() {
        return used().drop();
    }

    int set(int leaf, int entry, int value) {
        return used().set(leaf, entry, value);
    }

    int damage(int leaf, int entry, int what, int number) {
        return used().damage(leaf, entry, what, number);
    }

    int undo() {
        return used().undo();
    }

    int years(int seed, int n, int what) {
        return used().years(seed, n, what);
    }

    int image() {
        used().image();
        return 0;
    }

    int restore() {
        return used().restore() ? 1 : 0;
    }

    // ---- texts ----

    /** Bytes 0 to 255, then blanks up to the next twenty: what the last feed answered. */
    int tape(String text) {
        StringBuilder padded = new StringBuilder(text);
        while (padded.length() % 20 != 0) {
            padded.append(' ');
        }
        int last = 0;
        for (int i = 0; i < padded.length(); i += 20) {
            int[] five = new int[5];
            for (int k = 0; k < 20; k++) {
                five[k / 4] = five[k / 4] << 8 | padded.charAt(i + k);
            }
            last = feed(five[0], five[1], five[2], five[3], five[4]);
        }
        return last;
    }

    int schema(String text) {
        tape(text);
        return schema(text.length());
    }

    int add(String text) {
        tape(text);
        return add(text.length());
    }

    int view(String text) {
        tape(text);
        return view(text.length());
    }

    int pipe(String text) {
        tape(text);
        return pipe(text.length());
    }

    // ---- what it tells ----

    String told(int record, int set) {
        StringBuilder sb = new StringBuilder();
        int n = length(record, set);
        for (int i = 0; i < n; i++) {
            sb.append((char) sign(record, set, i));
        }
        return sb.toString();
    }

    String told(int record) {
        return told(record, (1 << count(1)) - 1);
    }

    String seenText(int record) {
        StringBuilder sb = new StringBuilder();
        int n = seen(record);
        for (int i = 0; i < n; i++) {
            sb.append((char) seenSign(record, i));
        }
        return sb.toString();
    }

    /** Of each entry REP, DEF, and ':' with its VALUE. */
    String column(int leaf) {
        StringBuilder sb = new StringBuilder();
        int n = leaf(leaf, 1);
        for (int i = 0; i < n; i++) {
            sb.append(i == 0 ? "" : " ").append(entry(leaf, i, 0)).append(entry(leaf, i, 1));
            int value = entry(leaf, i, 2);
            sb.append(value == NONE ? "" : ":" + value);
        }
        return sb.toString();
    }

    String pipedValues(int leaf) {
        StringBuilder sb = new StringBuilder();
        int n = piped(leaf, NONE);
        for (int i = 0; i < n; i++) {
            sb.append(i == 0 ? "" : " ").append(piped(leaf, i));
        }
        return sb.toString();
    }

    String fieldName(int field) {
        StringBuilder sb = new StringBuilder();
        int n = field(field, 5);
        for (int i = 0; i < n; i++) {
            sb.append((char) name(field, i));
        }
        return sb.toString();
    }

    /** What CHECK finds, its LEAF, its ENTRY. */
    String check() {
        return count(9) + " " + count(10) + " " + count(11);
    }

    // ---- all that can be asked ----

    /** All but STATUS, the tape and the FAULT's place. */
    String kept() {
        StringBuilder sb = new StringBuilder("counts");
        for (int what = 0; what <= 14; what++) {
            sb.append(' ').append(count(what));
        }
        for (int i = 0; i < count(0); i++) {
            sb.append("\nfield ").append(fieldName(i));
            for (int what = 0; what <= 6; what++) {
                sb.append(' ').append(field(i, what));
            }
        }
        for (int i = 0; i < count(1); i++) {
            sb.append("\nleaf ").append(column(i)).append(", piped ").append(pipedValues(i));
        }
        for (int i = 0; i < count(2); i++) {
            sb.append("\nrecord ").append(told(i)).append(" seen ").append(seenText(i));
        }
        return sb.toString();
    }

    String all() {
        return kept() + "\nSTATUS " + count(16) + " " + count(17) + ", tape " + count(15) + ", fault " + fault();
    }

    /** Undoes all acts; what there is behind each. */
    String undone() {
        StringBuilder sb = new StringBuilder();
        for (int left = undo(); left != NONE; left = undo()) {
            sb.append(left).append(": ").append(count(2)).append(' ').append(count(3)).append(' ').append(check());
            for (int i = 0; i < count(1); i++) {
                sb.append(' ').append(fold(i, 7));
            }
            sb.append('\n');
        }
        return sb.toString();
    }

    // ---- objects to begin with ----

    static Bench made(String schema, String... records) {
        Bench b = new Bench();
        if (b.schema(schema) != 0) {
            throw new IllegalStateException("the test's schema has a fault: " + schema);
        }
        for (String text : records) {
            if (b.add(text) != 0) {
                throw new IllegalStateException("the test's records have a fault: " + text);
            }
        }
        return b;
    }

    /** Something of all there is: records, a view, a pipe, acts of each kind, an image, both STATUS, a fault's place. */
    static Bench busy() {
        Bench b = made("many g{one x;maybe y;many z;}one n;", "[(1 - []) (2 5 [7 8])] 9;[] 4;");
        b.view("one n;maybe m;many g{many z;maybe x;maybe w;}");
        b.pipe("plus 1;gap 1;");
        b.set(0, 1, 3);
        b.image();
        b.add("[(5 6 [])] 7;[] 1;");
        b.drop();
        b.set(3, 2, 8);
        b.set(3, 2, 8);
        b.damage(1, 1, 1, 1);
        b.pipe("plus x;");
        return b;
    }

    /** Sixteen fields, eight leaves, groups in three others, thirty records, 120 entries of leaf 0. */
    static Bench greatest() {
        return made("many a{many b{many c{many d;maybe e;}maybe f;}maybe g;}maybe h{maybe i{maybe j{maybe k;one l;}}}"
                + "many m{one n{one o;one p;}}", "[([([([" + "1 ".repeat(91) + "]2)]3)]4)](((5 6)))[((7 8))];" + "[]-[];".repeat(29));
    }

    /** As busy, with twenty bytes on the tape. */
    static Bench busyWithTape() {
        Bench b = busy();
        b.tape("one a;");
        return b;
    }
}
