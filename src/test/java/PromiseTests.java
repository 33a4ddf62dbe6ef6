import java.util.NoSuchElementException;

/** For each promise of the document: ordinary inputs, the edges that it names, wrong inputs. */
public final class PromiseTests {
    private static final int NONE = LeafStripes.NONE;
    private static final String BASE = "many g{one x;maybe y;many z;}one n;";
    private static final String TWO = "[(1 - []) (2 5 [7 8])] 9;[] 4;";

    private static int promise;
    private static int wrong;
    private static int checked;

    private interface Call {
        int run();
    }

    private static void due(String what, int got, int want) {
        checked++;
        if (got != want) {
            wrong++;
            System.out.println("promise " + promise + ": " + what + " answered " + got + ", due is " + want);
        }
    }

    private static void same(String what, String got, String want) {
        checked++;
        if (!got.equals(want)) {
            wrong++;
            System.out.println("promise " + promise + ": " + what + " told '" + got + "', due is '" + want + "'");
        }
    }

    private static void missing(String what, Call call) {
        refused(what, call, NoSuchElementException.class);
    }

    private static void argument(String what, Call call) {
        refused(what, call, IllegalArgumentException.class);
    }

    private static void refused(String what, Call call, Class<?> kind) {
        checked++;
        String got;
        try {
            got = String.valueOf(call.run());
        } catch (RuntimeException e) {
            if (e.getClass() == kind) {
                return;
            }
            got = e.toString();
        }
        wrong++;
        System.out.println("promise " + promise + ": " + what + " answered " + got + ", due is " + kind.getSimpleName());
    }

    // ---- texts ----

    private static void feed(LeafStripes x, String text) {
        StringBuilder sb = new StringBuilder(text);
        while (sb.length() % 20 != 0) {
            sb.append(' ');
        }
        for (int i = 0; i < sb.length(); i += 20) {
            int[] w = new int[5];
            for (int k = 0; k < 20; k++) {
                w[k / 4] = w[k / 4] << 8 | sb.charAt(i + k) & 255;
            }
            if (x.feed(w[0], w[1], w[2], w[3], w[4]) == NONE) {
                throw new AssertionError("the test's text is too long");
            }
        }
    }

    private static int schema(LeafStripes x, String text) {
        feed(x, text);
        return x.schema(text.length());
    }

    private static int add(LeafStripes x, String text) {
        feed(x, text);
        return x.add(text.length());
    }

    private static int view(LeafStripes x, String text) {
        feed(x, text);
        return x.view(text.length());
    }

    private static int pipe(LeafStripes x, String text) {
        feed(x, text);
        return x.pipe(text.length());
    }

    private static LeafStripes made(String schema, String... records) {
        LeafStripes x = new LeafStripes();
        if (schema(x, schema) != 0) {
            throw new AssertionError("the test's schema is wrong: " + schema);
        }
        for (String r : records) {
            if (add(x, r) != 0) {
                throw new AssertionError("the test's records are wrong: " + r + " at " + x.fault());
            }
        }
        return x;
    }

    private static String told(LeafStripes x, int record, int set) {
        StringBuilder sb = new StringBuilder();
        int n = x.length(record, set);
        for (int i = 0; i < n; i++) {
            sb.append((char) x.sign(record, set, i));
        }
        return sb.toString();
    }

    private static String seen(LeafStripes x, int record) {
        StringBuilder sb = new StringBuilder();
        int n = x.seen(record);
        for (int i = 0; i < n; i++) {
            sb.append((char) x.seenSign(record, i));
        }
        return sb.toString();
    }

    private static String levels(LeafStripes x, int leaf) {
        StringBuilder sb = new StringBuilder();
        for (int i = 0; i < x.leaf(leaf, 1); i++) {
            sb.append(i == 0 ? "" : " ").append(x.entry(leaf, i, 0)).append(x.entry(leaf, i, 1));
            sb.append(x.entry(leaf, i, 2) == NONE ? "" : ":" + x.entry(leaf, i, 2));
        }
        return sb.toString();
    }

    private static String piped(LeafStripes x, int leaf) {
        StringBuilder sb = new StringBuilder();
        for (int i = 0; i < x.piped(leaf, NONE); i++) {
            sb.append(i == 0 ? "" : " ").append(x.piped(leaf, i));
        }
        return sb.toString();
    }

    private static void schemaFault(String text, int fault, int place) {
        LeafStripes x = new LeafStripes();
        due("schema '" + text + "'", schema(x, text), fault);
        due("fault of '" + text + "'", x.fault(), fault == 0 ? NONE : place);
        due("STATUS 0 of '" + text + "'", x.count(16), fault == 0 ? 0 : 1);
    }

    private static void addFault(String schema, String text, int fault, int place) {
        LeafStripes x = made(schema);
        due("add '" + text + "'", add(x, text), fault);
        due("fault of '" + text + "'", x.fault(), fault == 0 ? NONE : place);
        if (fault != 0) {
            due("records of '" + text + "'", x.count(2), 0);
            due("entries of '" + text + "'", x.count(3), 0);
            due("STATUS 0", x.count(16), 1);
            due("STATUS 1", x.count(17), 0);
            due("ACTS", x.count(14), 0);
        }
    }

    private static void viewFault(String schema, String text, int fault, int place) {
        LeafStripes x = schema.isEmpty() ? new LeafStripes() : made(schema);
        due("view '" + text + "' of '" + schema + "'", view(x, text), fault);
        due("fault of '" + text + "'", x.fault(), fault == 0 ? NONE : place);
        due("view's fields", x.count(6) == 0 ? 1 : 0, fault == 0 ? 0 : 1);
    }

    private static void pipeFault(String text, int fault, int place) {
        LeafStripes x = new LeafStripes();
        due("pipe '" + text + "'", pipe(x, text), fault);
        due("fault of '" + text + "'", x.fault(), fault == 0 ? NONE : place);
        due("STATUS 0", x.count(16), fault == 0 ? 0 : 1);
    }

    // ---- promises ----

    private static void newObject() {
        LeafStripes x = new LeafStripes();
        for (int what = 0; what <= 17; what++) {
            boolean none = what == 10 || what == 11 || what == 13;
            due("count(" + what + ")", x.count(what), none ? NONE : 0);
        }
        due("fault()", x.fault(), NONE);
        due("NONE", LeafStripes.NONE, -1);
        missing("field", () -> x.field(0, 0));
        missing("leaf", () -> x.leaf(0, 0));
        missing("length", () -> x.length(0, 1));
        argument("next", () -> x.next(1, 0, 0));
        due("undo", x.undo(), NONE);
        due("drop", x.drop(), NONE);
        due("restore", x.restore() ? 1 : 0, 0);
        due("years", x.years(1, 10, 2), 0);
    }

    private static void feedTape() {
        LeafStripes x = new LeafStripes();
        for (int i = 1; i <= 35; i++) {
            due("feed", x.feed(0, 0, 0, 0, 0), 20 * i);
        }
        due("feed over 700", x.feed(0, 0, 0, 0, 0), NONE);
        due("bytes", x.count(15), 700);
        argument("more than there are", () -> x.schema(701));
        due("text of zeros", x.schema(700), 1);
        due("bytes", x.count(15), 0);
        LeafStripes y = new LeafStripes();
        // 'o' 'n' 'e' ' ' are the highest to the lowest byte of the first number
        y.feed(0x6f6e6520, 0x613b2020, 0x20202020, 0x0a0a0a0a, 0x6f6e65ff);
        due("schema of 16", y.schema(16), 0);
        y.feed(0x6f6e6520, 0x613b2020, 0x20202020, 0x0a0a0a0a, 0x6f6e65ff);
        due("schema of 20", y.schema(20), 1);
        due("ends not too soon: 255 is no token", y.fault(), 19);
    }

    private static void schemaText() {
        schemaFault("one a;", 0, 0);
        schemaFault(" \none\n a \n; ", 0, 0);
        schemaFault("one one;maybe many;many a;", 0, 0);
        schemaFault("", 1, 0);
        schemaFault("   ", 1, 3);
        schemaFault("x", 1, 0);
        schemaFault("onea;", 1, 0);
        schemaFault("xne a;", 1, 0);
        schemaFault("zany a;", 1, 0);
        schemaFault("on a;", 1, 0);
        schemaFault("one a", 1, 5);
        schemaFault("one a  ", 1, 7);
        schemaFault("one ", 1, 4);
        schemaFault("one;", 1, 3);
        schemaFault("one a1;", 1, 5);
        schemaFault("one A;", 1, 4);
        schemaFault("one a;}", 1, 6);
        schemaFault("one a{}", 1, 6);
        schemaFault("one a{one b;", 1, 12);
        schemaFault("one a{one b;};", 1, 13);
        schemaFault("one a(", 1, 5);
        schemaFault("one a\t;", 1, 5);
        schemaFault("one abcd;", 0, 0);
        schemaFault("one abcde;", 2, 4);
        schemaFault("one maybe;", 2, 4);
        schemaFault("one a;one b;maybe a;", 4, 18);
        schemaFault("one a{one a;one b{one a;}}", 0, 0);
        schemaFault("one a{one b;many b;}", 4, 17);
        schemaFault("one a{one b;}one a;", 4, 17);
        schemaFault("one a{one b{one c{one d;}}}", 0, 0);
        schemaFault("one a{one b{one c{one d{one e;}}}}", 2, 23);
        schemaFault("one a;one b;one c;one d;one e;one f;one g;one h;", 0, 0);
        schemaFault("one a;one b;one c;one d;one e;one f;one g;one h;one i;", 2, 53);
        schemaFault("one a;one b;one c;one d;one e;one f;one g;one h;one a;", 4, 52);
        schemaFields();
        LeafStripes x = made(BASE, TWO);
        view(x, "maybe n;");
        pipe(x, "plus 1;");
        x.damage(0, 0, 0, 0);
        x.image();
        due("STATUS 1", x.count(17), 1);
        due("a FAULT", schema(x, "one a;on b;"), 1);
        due("all stays: FIELDS", x.count(0), 5);
        due("RECORDS", x.count(2), 2);
        due("VIEW", x.count(6), 1);
        due("PIPE", x.count(7), 1);
        due("ACTS", x.count(14), 1);
        due("STATUS", x.count(16), 1);
        due("the image", x.restore() ? 1 : 0, 1);
        schema(x, "x");
        argument("n below 0", () -> x.schema(-1));
        feed(x, "one a;");
        argument("not so many", () -> x.schema(21));
        due("nothing changes", x.count(15), 20);
        due("all anew", x.schema(6), 0);
        due("the tape is empty", x.count(15), 0);
        for (int what : new int[] {2, 3, 6, 7, 14}) {
            due("count(" + what + ") anew", x.count(what), 0);
        }
        due("the image is gone", x.restore() ? 1 : 0, 0);
        due("STATUS 0 stays", x.count(16), 1);
        due("STATUS 1 stays", x.count(17), 1);
    }

    private static void schemaFields() {
        String eight = "one a{one b{one c{one d;}}one e{one f{one g;}}one h{one i{one j;}}one k{one l;}one m{one n;}";
        schemaFault(eight + "}one o;", 0, 0);
        schemaFault(eight + "one p{one o;}}", 0, 0);
        schemaFault(eight + "one p{one o;}}one q;", 2, eight.length() + 14);
        schemaFault(eight + "one p{one o;}}on q;", 1, eight.length() + 14);
        schemaFault(eight + "one p{one o;one q;}}", 2, eight.length() + 12);
    }

    private static void addRecords() {
        addFault(BASE, TWO, 0, 0);
        addFault(BASE, "", 1, 0);
        addFault(BASE, "  ", 1, 2);
        addFault(BASE, "[] 4", 1, 4);
        addFault(BASE, "[];", 1, 2);
        addFault(BASE, "[] - ;", 1, 3);
        addFault(BASE, "[] 4;;", 1, 5);
        addFault(BASE, "[] 4;[", 1, 6);
        addFault(BASE, "[ 4;", 1, 2);
        addFault(BASE, "[(1 - [)] 4;", 1, 7);
        addFault(BASE, "[(1 - [])", 1, 9);
        addFault(BASE, "[(1 - []]", 1, 8);
        addFault(BASE, "[(1 a []] 4;", 1, 4);
        addFault(BASE, "[] 1000;", 2, 3);
        addFault(BASE, "[] 0001;", 2, 3);
        addFault(BASE, "[] 999;", 0, 0);
        addFault(BASE, "1000;", 1, 0);
        addFault("maybe a;one b;", "-5;", 0, 0);
        addFault("maybe a;one b;", "--;", 1, 1);
        LeafStripes x = made(BASE, TWO);
        due("records of both", x.count(2), 2);
        due("one ACT for all of a text", x.count(14), 1);
        walked();
        moreThan30();
        moreThan120();
        LeafStripes y = new LeafStripes();
        feed(y, "1;");
        due("without FIELDS", y.add(2), NONE);
        due("STATUS 1", y.count(17), 1);
        due("STATUS 0", y.count(16), 0);
        due("the tape is empty", y.count(15), 0);
        argument("below 0", () -> y.add(-1));
        argument("not so many", () -> y.add(1));
        due("STATUS 1 as it was", y.count(17), 1);
        LeafStripes z = made("one a;", "1;");
        z.damage(0, 0, 0, 1);
        due("CHECK finds something", add(z, "2;"), NONE);
        due("RECORDS", z.count(2), 1);
    }

    private static void walked() {
        LeafStripes x = made(BASE, TWO);
        same("x", levels(x, 0), "01:1 11:2 00");
        same("y", levels(x, 1), "01 12:5 00");
        same("z", levels(x, 2), "01 12:7 22:8 00");
        same("n", levels(x, 3), "00:9 00:4");
        LeafStripes d = made("maybe a{many b{maybe c;one d;}}many e{maybe f{one h;}}",
                "([(- 1) (2 3)]) [(-) ((4)) (-)];", "- [];", "([]) [((5))];");
        same("c", levels(d, 0), "02 13:2 00 01");
        same("d", levels(d, 1), "02:1 12:3 00 01");
        same("h", levels(d, 2), "01 12:4 11 00 02:5");
    }

    private static void moreThan30() {
        LeafStripes x = made("one a;", "1;".repeat(29));
        due("two more", add(x, "1;2;"), 2);
        due("at the first token of the 31st", x.fault(), 2);
        due("none is", x.count(2), 29);
        due("one more", add(x, "1;"), 0);
        due("30", x.count(2), 30);
        due("31st", add(x, "1000;"), 2);
        due("31st can't begin so", add(x, "-;"), 1);
        due("at", x.fault(), 0);
        due("a text that ends", add(x, " "), 1);
    }

    private static void moreThan120() {
        LeafStripes x = made("many a;one b;", "[" + "1 ".repeat(119) + "]1;");
        due("119", x.leaf(0, 1), 119);
        due("2 more", add(x, "[1 2]1;"), 2);
        due("at ';'", x.fault(), 6);
        due("one and one more", add(x, "[]1;[]2;"), 2);
        due("at the second ';'", x.fault(), 7);
        due("a wrong token ahead of it", add(x, "[1 2];"), 1);
        due("one more", add(x, "[]1;"), 0);
        due("120", x.leaf(0, 1), 120);
        due("entries", x.count(3), 122);
        due("121", add(x, "[]1;"), 2);
        due("a long one", add(made("many a;"), "[" + "1 ".repeat(300) + "];"), 2);
    }

    private static void viewText() {
        viewFault("", "maybe q;", 0, 0);
        viewFault("", "one q;", 3, 4);
        viewFault("", "many q{one a;}", 0, 0);
        viewFault(BASE, "one n;", 0, 0);
        viewFault(BASE, "maybe n;", 0, 0);
        viewFault(BASE, "many n;", 3, 5);
        viewFault(BASE, "maybe g{one x;}", 3, 6);
        viewFault(BASE, "one g{one x;}", 3, 4);
        viewFault(BASE, "many g;", 3, 6);
        viewFault(BASE, "one n{one x;}", 3, 5);
        viewFault(BASE, "many g{one y;}", 3, 11);
        viewFault(BASE, "many g{maybe n;}", 0, 0);
        viewFault(BASE, "many g{one n;}", 3, 11);
        viewFault(BASE, "many g{maybe q{one r;one s{one t;}}}", 0, 0);
        viewFault(BASE, "many q{one r;one r;}", 4, 17);
        viewFault(BASE, "maybe q;one q;", 3, 12);
        viewFault(BASE, "maybe q;maybe q;", 4, 14);
        viewFault(BASE, "maybe qqqqq;", 2, 6);
        viewFault(BASE, "one qqqqq;", 2, 4);
        viewFault(BASE, "maybe n", 1, 7);
        viewFault(BASE, "", 1, 0);
        viewFault("one a{one b{one c{one d;}}}", "one a{one b{one c{one d{", 2, 23);
        String eight = "many a;many b;many c;many d;many e;many f;many g;many h;";
        viewFault("one i{one x;}", eight + "maybe i;", 2, eight.length() + 7);
        LeafStripes x = made(BASE, TWO);
        view(x, "maybe n;maybe k;");
        due("it stays", view(x, "one k;"), 3);
        due("FIELDS of the VIEW", x.count(6), 2);
        due("STATUS 0", x.count(16), 1);
        due("in place of another one", view(x, "maybe k;"), 0);
        due("FIELDS of the VIEW", x.count(6), 1);
        argument("below 0", () -> x.view(-1));
        argument("not so many", () -> x.view(1));
    }

    private static void pipeText() {
        pipeFault("", 0, 0);
        pipeFault("plus 0;times 999;mod 1;less 0;more 999;first 0;gap 0;plus 1;", 0, 0);
        pipeFault("plus 1;".repeat(9), 2, 56);
        pipeFault("plus 1;".repeat(8) + "plsu 1;", 1, 56);
        pipeFault("plus 1000;", 2, 5);
        pipeFault("plus 0001;", 2, 5);
        pipeFault("mod 0;", 2, 4);
        pipeFault("mod 000;", 2, 4);
        pipeFault("mod;", 1, 3);
        pipeFault("plus -1;", 1, 5);
        pipeFault("plus 1", 1, 6);
        pipeFault("plus 1;gap", 1, 10);
        pipeFault("1;", 1, 0);
        pipeFault("glus 1;", 1, 0);
        pipeFault("pluss 1;", 1, 0);
        LeafStripes x = made("many a;", "[1 2 3];");
        pipe(x, "plus 1;gap 1;");
        due("it stays", pipe(x, "plus 2;x"), 1);
        due("STEPS", x.count(7), 2);
        same("through it", piped(x, 0), "2 4");
        due("in place of another one", pipe(x, ""), 0);
        due("STEPS", x.count(7), 0);
        argument("below 0", () -> x.pipe(-1));
        argument("not so many", () -> x.pipe(1));
    }

    private static void faultPlace() {
        LeafStripes x = made(BASE);
        due("without", x.fault(), NONE);
        pipe(x, "plus a;");
        due("of the pipe", x.fault(), 5);
        argument("no text", () -> x.add(1));
        due("as it was", x.fault(), 5);
        add(x, "[] 1;");
        due("the latest has none", x.fault(), NONE);
        view(x, "one q;");
        due("of the view", x.fault(), 4);
        x.damage(0, 0, 0, 1);
        due("NONE", add(x, "x"), NONE);
        due("add() with NONE is none", x.fault(), 4);
        schema(x, "one a;x");
        due("of the schema", x.fault(), 6);
        schema(x, "one a;");
        due("none", x.fault(), NONE);
    }

    private static void counts() {
        LeafStripes x = made(BASE, TWO);
        int[] due = {5, 4, 2, 12, 2, 2, 0, 0, 6, 0, NONE, NONE};
        for (int i = 0; i < due.length; i++) {
            due("count(" + i + ")", x.count(i), due[i]);
        }
        missing("18", () -> x.count(18));
        missing("-1", () -> x.count(NONE));
        due("cover", made("one a;one b;").count(8), 0);
        due("cover", made("many g{one a;one b;}").count(8), 1);
        due("cover", made("one c;many g{one a;maybe b;}").count(8), 4);
        due("cover", made("maybe a;many b{one c;maybe d{one e;one f;}}").count(8), 5);
        checks();
        harmless();
        LeafStripes y = made("many a;", "[1 2];");
        due("ACTS", y.count(14), 1);
        feed(y, "x");
        due("bytes", y.count(15), 20);
        y.add(1);
        due("STATUS 0", y.count(16), 1);
        y.set(0, 0, 1);
        due("STATUS 1", y.count(17), 1);
    }

    private static void check(LeafStripes x, int what, int leaf, int entry) {
        due("CHECK", x.count(9), what);
        due("its LEAF", x.count(10), leaf);
        due("its ENTRY", x.count(11), entry);
        due("HARMLESS", x.count(12) == 0 ? 0 : 1, 0);
        due("the first", x.count(13), NONE);
        due("undone", x.undo() >= 0 ? 1 : 0, 1);
        due("as it was", x.count(9), 0);
    }

    private static void checks() {
        LeafStripes x = made(BASE, TWO);
        x.damage(2, 1, 0, 3);
        check(x, 1, 2, 1);
        x.damage(2, 0, 0, 1);
        check(x, 1, 2, 0);
        x.damage(1, 1, 1, 3);
        check(x, 2, 1, 1);
        x.damage(2, 1, 1, 1);
        check(x, 3, 2, 2);
        x.damage(2, 0, 1, 0);
        check(x, 3, 2, 1);
        x.damage(2, 2, 0, 0);
        check(x, 4, 2, 4);
        x.damage(0, 2, 1, 1);
        check(x, 5, 1, 2);
        x.damage(2, 2, 0, 1);
        check(x, 5, 2, 2);
        LeafStripes y = made("many g{one a;one b;}", "[(1 2) (3 4) (5 6)];");
        y.damage(0, 1, 0, 9);
        check(y, 1, 0, 1);
        LeafStripes z = made("many h{many g{one a;one b;}many c;}", "[([(1 2)(3 4)] [5 6]) ([(1 2)][])];");
        z.damage(2, 1, 0, 1);
        check(z, 5, 2, 2);
        z.damage(2, 2, 0, 2);
        check(z, 3, 2, 2);
        // the leaf ahead has one more of its level
        z.damage(0, 1, 0, 1);
        check(z, 5, 1, 1);
        LeafStripes w = made("many h{one a;many b;}", "[(1 [2]) (3 [4 5])];");
        w.damage(1, 1, 0, 2);
        check(w, 5, 1, 3);
        w.damage(1, 2, 0, 1);
        check(w, 5, 1, 2);
    }

    private static void harmless() {
        LeafStripes x = made("maybe a;", "1;-;");
        due("HARMLESS", x.count(12), 2);
        due("the first", x.count(13), 10);
        LeafStripes y = made("one b;many g{many a;}", "1[([1 2])];");
        // of a: DEF of both may be none below 2 but for the first's: it and the next one need 2; REP 2 may be 1
        due("HARMLESS", y.count(12), 1);
        due("the first", y.count(13), 10000 + 20 + 1);
        LeafStripes z = made("one b;", "1;");
        due("none", z.count(12), 0);
        due("none", z.count(13), NONE);
        byDamage(made(BASE, TWO));
        byDamage(made("many h{many g{one a;maybe b;}many c{maybe d;}}", "[([(1 2)(3 -)] [(5)(-)]) ([(1 2)][])];[];"));
    }

    /** Each other number is tried as damage, and undone. */
    private static void byDamage(LeafStripes x) {
        int many = 0;
        int first = NONE;
        for (int leaf = 0; leaf < x.count(1); leaf++) {
            for (int e = 0; e < x.leaf(leaf, 1); e++) {
                for (int what = 0; what < 2; what++) {
                    for (int n = 0; n <= x.field(x.leaf(leaf, 0), what == 0 ? 4 : 3); n++) {
                        if (x.damage(leaf, e, what, n) != NONE) {
                            if (x.count(9) == 0) {
                                many++;
                                first = first == NONE ? leaf * 10000 + e * 20 + what * 10 + n : first;
                            }
                            x.undo();
                        }
                    }
                }
            }
        }
        due("HARMLESS by damage", x.count(12), many);
        due("the first by damage", x.count(13), first);
    }

    private static void fields() {
        LeafStripes x = made("maybe ab{many c{one d;maybe efgh;}one i;}one j;");
        int[][] due = {{1, NONE, NONE, 1, 0, 2, 2}, {2, NONE, 0, 2, 1, 1, 2}, {0, 0, 1, 2, 1, 1, 0},
            {1, 1, 1, 3, 1, 4, 0}, {0, 2, 0, 1, 0, 1, 0}, {0, 3, NONE, 0, 0, 1, 0}};
        for (int f = 0; f < due.length; f++) {
            for (int what = 0; what < 7; what++) {
                due("field(" + f + ", " + what + ")", x.field(f, what), due[f][what]);
            }
        }
        missing("field 6", () -> x.field(6, 0));
        missing("field -1", () -> x.field(-1, 0));
        missing("what 7", () -> x.field(0, 7));
        missing("what -1", () -> x.field(0, -1));
    }

    private static void names() {
        LeafStripes x = made("maybe ab{many efgh;}one one;");
        due("a", x.name(0, 0), 'a');
        due("b", x.name(0, 1), 'b');
        due("h", x.name(1, 3), 'h');
        due("e", x.name(2, 2), 'e');
        missing("letter 2", () -> x.name(0, 2));
        missing("letter 4", () -> x.name(1, 4));
        missing("letter -1", () -> x.name(1, -1));
        missing("field 3", () -> x.name(3, 0));
        missing("field -1", () -> x.name(-1, 0));
    }

    private static void leaves() {
        LeafStripes x = made(BASE, TWO);
        int[][] due = {{1, 3, 3, 2, 1, 1}, {2, 3, 3, 3, 1, 2}, {3, 4, 4, 3, 2, 2}, {4, 2, 1, 1, 0, 0}};
        for (int leaf = 0; leaf < 4; leaf++) {
            for (int what = 0; what < 6; what++) {
                due("leaf(" + leaf + ", " + what + ")", x.leaf(leaf, what), due[leaf][what]);
            }
        }
        LeafStripes y = made("many a{many b{many c{many d;}}}one e;");
        due("BITS of 4", y.leaf(0, 4), 3);
        due("BITS of 4", y.leaf(0, 5), 3);
        due("RUNS of none", y.leaf(0, 2), 0);
        due("BITS of 3", made("maybe a{many b{many c;}}").leaf(0, 5), 2);
        missing("leaf 4", () -> x.leaf(4, 0));
        missing("leaf -1", () -> x.leaf(-1, 0));
        missing("what 6", () -> x.leaf(0, 6));
        missing("what -1", () -> x.leaf(0, -1));
    }

    private static void entries() {
        LeafStripes x = made(BASE, TWO);
        due("REP", x.entry(2, 2, 0), 2);
        due("DEF", x.entry(2, 2, 1), 2);
        due("VALUE", x.entry(2, 2, 2), 8);
        due("no VALUE", x.entry(1, 0, 2), NONE);
        missing("entry 3", () -> x.entry(0, 3, 0));
        missing("entry -1", () -> x.entry(0, -1, 0));
        missing("leaf 4", () -> x.entry(4, 0, 0));
        missing("what 3", () -> x.entry(0, 0, 3));
        missing("what -1", () -> x.entry(0, 0, -1));
    }

    private static void skips() {
        LeafStripes x = made(BASE, TWO, "[(1 1 [1 2 3])] 0;");
        int[][] due = {{0, 3}, {3, 1}, {4, 3}};
        for (int r = 0; r < 3; r++) {
            due("first", x.skip(2, r, 0), due[r][0]);
            due("how many", x.skip(2, r, 1), due[r][1]);
        }
        x.damage(2, 3, 0, 1);
        due("now the third", x.skip(2, 1, 0), 4);
        due("the first has more", x.skip(2, 0, 1), 4);
        due("not so many", x.skip(2, 2, 0), NONE);
        due("not so many", x.skip(2, 2, 1), NONE);
        x.damage(2, 0, 0, 1);
        due("what stands ahead counts nowhere", x.skip(2, 0, 0), 4);
        missing("record 3", () -> x.skip(2, 3, 0));
        missing("record -1", () -> x.skip(2, -1, 0));
        missing("leaf 4", () -> x.skip(4, 0, 0));
        missing("what 2", () -> x.skip(2, 0, 2));
        missing("what -1", () -> x.skip(2, 0, -1));
    }

    private static void machine() {
        LeafStripes x = made("many h{many g{one a;one b;}many c;one d;}maybe e;");
        int[][] due = {{31, 0, 0, 1}, {31, 0, 1, 1}, {31, 0, 2, 1}, {31, 1, 2, 0}, {31, 1, 1, 2}, {31, 1, 0, 2},
            {31, 2, 2, 2}, {31, 2, 1, 3}, {31, 3, 1, 0}, {31, 3, 0, 4}, {31, 4, 0, NONE},
            {2, 1, 2, 1}, {2, 1, 1, 1}, {2, 1, 0, NONE}, {14, 3, 1, 1}, {12, 3, 1, 2}, {18, 1, 1, 1}, {18, 1, 0, 4}};
        for (int[] d : due) {
            due("next(" + d[0] + ", " + d[1] + ", " + d[2] + ")", x.next(d[0], d[1], d[2]), d[3]);
        }
        missing("not in the SET", () -> x.next(30, 0, 0));
        missing("ahead of a wrong SET", () -> x.next(32, 0, 0));
        missing("ahead of a wrong level", () -> x.next(30, 0, 9));
        missing("SET 0", () -> x.next(0, 0, 0));
        missing("leaf 32", () -> x.next(1, 32, 0));
        missing("leaf -1", () -> x.next(-1, -1, 0));
        argument("LEAVES that there aren't", () -> x.next(33, 0, 0));
        argument("all bits", () -> x.next(-1, 31, 0));
        argument("level above", () -> x.next(31, 0, 3));
        argument("level below 0", () -> x.next(31, 0, -1));
    }

    private static void lengths() {
        LeafStripes x = made(BASE, TWO);
        due("whole", x.length(0, 15), 25);
        due("pruned", x.length(0, 6), "[(- []) (5 [7 8])];".length());
        due("the second", x.length(1, 15), 5);
        missing("record 2", () -> x.length(2, 0));
        missing("record -1", () -> x.length(-1, 1));
        argument("SET 0", () -> x.length(0, 0));
        argument("LEAVES that there aren't", () -> x.length(0, 17));
        argument("below 0", () -> x.length(0, -1));
        x.damage(0, 0, 0, 1);
        due("anything is wrong", x.length(0, 15), NONE);
        argument("all the same", () -> x.length(0, 0));
    }

    private static void signs() {
        LeafStripes x = made(BASE, TWO);
        same("whole", told(x, 0, 15), "[(1 - []) (2 5 [7 8])] 9;");
        same("the second", told(x, 1, 15), "[] 4;");
        same("x", told(x, 0, 1), "[(1) (2)];");
        same("y z", told(x, 0, 6), "[(- []) (5 [7 8])];");
        same("z n", told(x, 0, 12), "[([]) ([7 8])] 9;");
        same("n", told(x, 1, 8), "4;");
        LeafStripes d = made("maybe a{many b{maybe c;one d;}}many e{maybe f{one h;}}",
                "([(-001)(002 100)])[(-)((4))(-)];-[];([])[((0))];");
        same("deep", told(d, 0, 7), "([(- 1) (2 100)]) [(-) ((4)) (-)];");
        same("none", told(d, 1, 7), "- [];");
        same("empty", told(d, 2, 7), "([]) [((0))];");
        same("pruned", told(d, 0, 2), "([(1) (100)]);");
        missing("byte 25", () -> x.sign(0, 15, 25));
        missing("byte -1", () -> x.sign(0, 15, -1));
        missing("record 2", () -> x.sign(2, 0, 0));
        argument("SET 0", () -> x.sign(0, 0, 0));
        argument("SET ahead of the byte", () -> x.sign(0, 16, 99));
        x.damage(1, 1, 1, 1);
        same("harmless damage is told", told(x, 0, 15), "[(1 - []) (2 - [7 8])] 9;");
        x.damage(0, 0, 0, 1);
        missing("anything is wrong", () -> x.sign(0, 15, 0));
    }

    private static void readCounts() {
        LeafStripes x = made(BASE, TWO);
        due("all", x.reads(0, 15), 8);
        due("some", x.reads(0, 5), 5);
        due("one", x.reads(0, 8), 1);
        due("the second", x.reads(1, 15), 4);
        missing("record 2", () -> x.reads(2, 0));
        argument("SET 0", () -> x.reads(0, 0));
        argument("LEAVES that there aren't", () -> x.reads(0, 16));
        x.damage(0, 0, 0, 1);
        due("anything is wrong", x.reads(0, 1), NONE);
    }

    private static void seenLengths() {
        LeafStripes x = made(BASE, TWO);
        due("no VIEW", x.seen(0), NONE);
        view(x, "one n;maybe m;many g{many z;maybe x;maybe w;}");
        due("seen", x.seen(0), 27);
        due("seen", x.seen(1), 7);
        missing("record 2", () -> x.seen(2));
        missing("record -1", () -> x.seen(-1));
        x.damage(0, 0, 0, 1);
        due("anything is wrong", x.seen(0), NONE);
    }

    private static void seenSigns() {
        LeafStripes x = made(BASE, TWO);
        missing("no VIEW", () -> x.seenSign(0, 0));
        view(x, "one n;maybe m;many g{many z;maybe x;maybe w;}");
        same("seen", seen(x, 0), "9 - [([] 1 -) ([7 8] 2 -)];");
        same("seen", seen(x, 1), "4 - [];");
        missing("byte 7", () -> x.seenSign(1, 7));
        missing("byte -1", () -> x.seenSign(1, -1));
        missing("record 2", () -> x.seenSign(2, 0));
        view(x, "many q{one r;}many g{many k;maybe j{one l;}}");
        same("items of new fields alone", seen(x, 0), "[] [([] -) ([] -)];");
        LeafStripes y = made("one a{maybe b;one c{many d;}}", "(5([1 2]));(-([]));");
        view(y, "maybe a{maybe c{many d;many e;}maybe b;}");
        same("ONE there, MAYBE here", seen(y, 0), "(([1 2] []) 5);");
        same("none in it", seen(y, 1), "(([] []) -);");
        x.damage(0, 0, 0, 1);
        missing("anything is wrong", () -> x.seenSign(0, 0));
    }

    private static void folds() {
        LeafStripes x = made("many a;one b;", "[5 3 5 900]1;[]2;");
        int[] due = {4, 913, 3, 900, 3, 1, 893, (((5 * 7 + 3) * 7 + 5) * 7 + 900) % 1000};
        for (int how = 0; how < 8; how++) {
            due("fold " + how, x.fold(0, how), due[how]);
        }
        int[] none = {0, 0, NONE, NONE, 0, 2, 0, 0};
        LeafStripes y = made("maybe a;", "-;-;");
        for (int how = 0; how < 8; how++) {
            due("fold of none " + how, y.fold(0, how), none[how]);
        }
        x.damage(0, 0, 1, 0);
        due("damage hides it", x.fold(0, 1), 908);
        due("less that", made("many a;", "[9 3];").fold(0, 6), -6);
        missing("how 8", () -> x.fold(0, 8));
        missing("how -1", () -> x.fold(0, -1));
        missing("leaf 2", () -> x.fold(2, 0));
    }

    private static void picks() {
        LeafStripes x = made("many a;", "[5 3];[];[7];[3 9];");
        due("is 3", x.picked(0, 0, 3), 9);
        due("less than 5", x.picked(0, 1, 5), 9);
        due("less than 3", x.picked(0, 1, 3), 0);
        due("more than 5", x.picked(0, 2, 5), 12);
        due("none", x.picked(0, 3, 5), 2);
        x.damage(0, 2, 0, 1);
        due("by FIRST ENTRIES", x.picked(0, 0, 7), 2);
        due("of RECORDS that have one", x.picked(0, 3, 0), 0);
        x.undo();
        x.damage(0, 1, 0, 0);
        due("of RECORDS that there are", x.picked(0, 2, 0), 11);
        due("30 records", made("one a;", "7;".repeat(30)).picked(0, 0, 7), (1 << 30) - 1);
        missing("how 4", () -> x.picked(0, 4, 0));
        missing("how -1", () -> x.picked(0, -1, 0));
        missing("leaf 1", () -> x.picked(1, 0, 0));
    }

    private static void pageCounts() {
        LeafStripes x = made("many a;", "[5 3];[];[7];[3 9];");
        due("1", x.pages(0, 1), NONE);
        due("2", x.pages(0, 2), 3);
        due("3", x.pages(0, 3), 2);
        due("4", x.pages(0, 4), 2);
        due("6", x.pages(0, 6), 1);
        due("120", x.pages(0, 120), 1);
        due("none", made("many a;").pages(0, 1), 0);
        x.damage(0, 0, 0, 1);
        due("what stands ahead counts nowhere", x.pages(0, 4), 1);
        argument("0", () -> x.pages(0, 0));
        argument("121", () -> x.pages(0, 121));
        missing("ahead of the size", () -> x.pages(1, 0));
    }

    private static void pipes() {
        LeafStripes x = made("many a;", "[5 3 8];[];[7 900];");
        same("without a text", piped(x, 0), "5 3 8 7 900");
        String[][] due = {{"plus 3;times 2;", "16 12 22 20 1806"}, {"less 8;", "5 3 7"}, {"more 7;", "8 900"},
            {"first 2;", "5 3"}, {"first 0;", ""}, {"gap 1;", "5 8 900"}, {"gap 0;", "5 3 8 7 900"},
            {"gap 4;", "5"}, {"mod 4;", "1 3 0 3 0"}, {"more 3;first 3;gap 1;plus 1;", "6 8"},
            {"times 999;times 999;times 999;mod 7;", wrapped(5, 3, 8, 7, 900)}};
        for (String[] d : due) {
            due("pipe " + d[0], pipe(x, d[0]), 0);
            same(d[0], piped(x, 0), d[1]);
        }
        missing("the 5th", () -> x.piped(0, 5));
        missing("-2", () -> x.piped(0, -2));
        missing("leaf 1", () -> x.piped(1, NONE));
        x.damage(0, 0, 1, 0);
        pipe(x, "first 1;");
        same("hidden by damage", piped(x, 0), "3");
    }

    private static String wrapped(int... values) {
        StringBuilder sb = new StringBuilder();
        for (int v : values) {
            int w = v * 999 * 999 * 999 % 7;
            sb.append(sb.length() == 0 ? "" : " ").append(w);
        }
        return sb.toString();
    }

    private static void drops() {
        LeafStripes x = made(BASE, TWO);
        due("left", x.drop(), 1);
        due("entries", x.count(3), 8);
        due("left", x.drop(), 0);
        due("entries", x.count(3), 0);
        due("there is none", x.drop(), NONE);
        due("STATUS 1", x.count(17), 1);
        due("undone", x.undo(), 2);
        due("undone", x.undo(), 1);
        same("as it was", told(x, 0, 15), "[(1 - []) (2 5 [7 8])] 9;");
        x.damage(0, 0, 0, 1);
        due("CHECK finds something", x.drop(), NONE);
        due("STATUS 1", x.count(17), 2);
        due("RECORDS", x.count(2), 2);
    }

    private static void sets() {
        LeafStripes x = made(BASE, TWO);
        due("as it was", x.set(0, 1, 999), 2);
        due("now", x.entry(0, 1, 2), 999);
        due("0", x.set(0, 1, 0), 999);
        due("it is so", x.set(0, 1, 0), NONE);
        due("it has none", x.set(0, 2, 1), NONE);
        due("1000", x.set(0, 0, 1000), NONE);
        due("-1", x.set(0, 0, -1), NONE);
        due("STATUS 1", x.count(17), 4);
        due("ACTS", x.count(14), 3);
        due("undone", x.undo(), 2);
        due("as it was", x.entry(0, 1, 2), 999);
        missing("leaf 4", () -> x.set(4, 0, 0));
        missing("entry 3", () -> x.set(0, 3, 0));
        missing("entry -1", () -> x.set(0, -1, 0));
        x.damage(3, 0, 0, 1);
        due("also if anything is wrong", x.set(0, 0, 4), 1);
    }

    private static void damages() {
        LeafStripes x = made(BASE, TWO);
        due("REP", x.damage(2, 2, 0, 9), 2);
        due("now", x.entry(2, 2, 0), 9);
        due("it is so", x.damage(2, 2, 0, 9), NONE);
        due("10", x.damage(2, 2, 0, 10), NONE);
        due("-1", x.damage(2, 2, 0, -1), NONE);
        due("STATUS 1", x.count(17), 3);
        due("undone", x.undo(), 1);
        due("as it was", x.entry(2, 2, 0), 2);
        due("DEF", x.damage(2, 2, 1, 0), 2);
        due("unseen", x.entry(2, 2, 2), NONE);
        due("there again", x.damage(2, 2, 1, 2), 0);
        due("the VALUE that stood there", x.entry(2, 2, 2), 8);
        due("DEF that had none", x.damage(1, 0, 1, 2), 1);
        due("0, if none ever did", x.entry(1, 0, 2), 0);
        due("set", x.set(1, 0, 6), 0);
        due("down", x.damage(1, 0, 1, 1), 2);
        due("up", x.damage(1, 0, 1, 2), 1);
        due("kept unseen", x.entry(1, 0, 2), 6);
        missing("what 2", () -> x.damage(0, 0, 2, 0));
        missing("what -1", () -> x.damage(0, 0, -1, 0));
        missing("leaf 4", () -> x.damage(4, 0, 0, 0));
        missing("entry 3", () -> x.damage(0, 3, 0, 0));
        LeafStripes y = made("maybe a;", "5;");
        y.drop();
        add(y, "-;");
        y.damage(0, 0, 1, 1);
        due("another record's value never stood there", y.entry(0, 0, 2), 0);
    }

    private static void undos() {
        LeafStripes x = made(BASE, TWO);
        due("none left", x.undo(), 0);
        due("RECORDS", x.count(2), 0);
        due("ENTRIES", x.count(3), 0);
        due("there is none", x.undo(), NONE);
        due("STATUS 1", x.count(17), 0);
        add(x, TWO);
        add(x, "[(1 1 [1 2 3])] 0;[] 5;");
        x.drop();
        x.drop();
        add(x, "[] 6;");
        x.set(3, 2, 7);
        x.damage(0, 0, 1, 0);
        for (int left = 6; left >= 2; left--) {
            due("left", x.undo(), left);
        }
        same("brought back", told(x, 2, 15), "[(1 1 [1 2 3])] 0;");
        same("brought back", told(x, 3, 15), "[] 5;");
        due("all of a text", x.undo(), 1);
        due("RECORDS", x.count(2), 2);
        LeafStripes y = made("one a;", "0;");
        for (int i = 1; i <= 45; i++) {
            y.set(0, 0, i);
        }
        due("40 are kept", y.count(14), 40);
        for (int left = 39; left >= 0; left--) {
            due("left", y.undo(), left);
        }
        due("the latest ones", y.entry(0, 0, 2), 5);
        due("no more", y.undo(), NONE);
        hiddenValueComesBack();
    }

    private static void hiddenValueComesBack() {
        LeafStripes x = made("maybe a;", "5;");
        x.damage(0, 0, 1, 0);
        x.drop();
        add(x, "8;");
        x.undo();
        x.undo();
        x.damage(0, 0, 1, 1);
        due("kept unseen by a drop", x.entry(0, 0, 2), 5);
    }

    private static int seed;

    private static int draw(int n) {
        seed = seed * 1103515245 + 12345;
        return (seed >> 16 & 32767) % n;
    }

    private static void yearsDrawn() {
        LeafStripes x = made("one a;maybe b;many c;", "1 2 [3 4];");
        for (int start : new int[] {0, 1, -7, Integer.MAX_VALUE, Integer.MIN_VALUE, 123456789}) {
            seed = start;
            int sum = 10;
            int entries = 4;
            for (int i = 0; i < 10; i++) {
                sum += draw(100);
                sum += draw(2) == 0 ? 0 : draw(100);
                int items = draw(3);
                for (int k = 0; k < items; k++) {
                    sum += draw(100);
                }
                entries += 2 + Math.max(1, items);
            }
            due("RECORDS", x.years(start, 10, 0), 11);
            due("VALUES", x.years(start, 10, 1), sum);
            due("ENTRIES", x.years(start, 10, 2), entries);
        }
        due("0 years", x.years(5, 0, 1), 10);
        due("all as ever", x.count(2), 1);
        due("all as ever", x.count(3), 4);
        due("all as ever", x.count(14), 1);
        missing("what 3", () -> x.years(1, 11, 3));
        missing("what -1", () -> x.years(1, 1, -1));
        argument("11", () -> x.years(1, 11, 0));
        argument("-1", () -> x.years(1, -1, 0));
        fullYears();
        x.damage(0, 0, 0, 1);
        due("CHECK finds something", x.years(1, 5, 0), 0);
        due("0 for all", x.years(1, 0, 2), 0);
    }

    private static void fullYears() {
        LeafStripes x = made("one a;", "1;".repeat(25));
        due("at most 30", x.years(3, 10, 0), 30);
        due("ENTRIES", x.years(3, 10, 2), 30);
        LeafStripes y = made("many a;", "[" + "1 ".repeat(116) + "];");
        seed = 77;
        int size = 116;
        int records = 1;
        for (int i = 0; i < 10; i++) {
            int items = draw(3);
            for (int k = 0; k < items; k++) {
                draw(100);
            }
            if (size + Math.max(1, items) <= 120) {
                size += Math.max(1, items);
                records++;
            }
        }
        due("what isn't ADDED is drawn all the same", y.years(77, 10, 0), records);
        due("ENTRIES", y.years(77, 10, 2), size);
    }

    private static void images() {
        LeafStripes x = made(BASE, TWO);
        x.image();
        x.drop();
        x.image();
        x.drop();
        due("restored", x.restore() ? 1 : 0, 1);
        due("in place of another one", x.count(2), 1);
        LeafStripes y = new LeafStripes();
        y.image();
        due("of nothing", y.restore() ? 1 : 0, 1);
    }

    private static void restores() {
        LeafStripes x = made(BASE, TWO);
        due("there is none", x.restore() ? 1 : 0, 0);
        x.set(3, 0, 8);
        x.set(3, 0, 8);
        pipe(x, "x");
        x.image();
        x.set(3, 0, 7);
        x.set(3, 0, 1000);
        x.drop();
        add(x, "[(9 9 [9])] 9;");
        pipe(x, "y");
        x.damage(0, 0, 0, 5);
        view(x, "maybe k;");
        pipe(x, "plus 1;");
        for (int i = 0; i < 2; i++) {
            due("restored", x.restore() ? 1 : 0, 1);
            due("RECORDS", x.count(2), 2);
            due("ACTS", x.count(14), 2);
            due("STATUS 0", x.count(16), 1);
            due("STATUS 1", x.count(17), 1);
            due("CHECK", x.count(9), 0);
            same("as it was", told(x, 0, 15), "[(1 - []) (2 5 [7 8])] 8;");
            same("as it was", told(x, 1, 15), "[] 4;");
            due("VIEW is the same", x.count(6), 1);
            due("PIPE is the same", x.count(7), 1);
            due("undone", x.undo(), 1);
            due("its VALUE", x.entry(3, 0, 2), 9);
        }
        schema(x, "one a;x");
        due("a FAULT leaves it", x.restore() ? 1 : 0, 1);
        schema(x, "one a;");
        due("gone", x.restore() ? 1 : 0, 0);
    }

    private interface Test {
        void run();
    }

    public static void main(String[] args) {
        Test[] tests = {PromiseTests::newObject, PromiseTests::feedTape, PromiseTests::schemaText,
            PromiseTests::addRecords, PromiseTests::viewText, PromiseTests::pipeText, PromiseTests::faultPlace,
            PromiseTests::counts, PromiseTests::fields, PromiseTests::names, PromiseTests::leaves,
            PromiseTests::entries, PromiseTests::skips, PromiseTests::machine, PromiseTests::lengths,
            PromiseTests::signs, PromiseTests::readCounts, PromiseTests::seenLengths, PromiseTests::seenSigns,
            PromiseTests::folds, PromiseTests::picks, PromiseTests::pageCounts, PromiseTests::pipes,
            PromiseTests::drops, PromiseTests::sets, PromiseTests::damages, PromiseTests::undos,
            PromiseTests::yearsDrawn, PromiseTests::images, PromiseTests::restores};
        for (Test test : tests) {
            promise++;
            int before = wrong;
            test.run();
            System.out.println("promise " + promise + (wrong == before ? ": ok" : ": WRONG"));
        }
        System.out.println("PromiseTests: " + checked + " answers looked at, " + wrong + " wrong");
        if (wrong != 0) {
            System.exit(1);
        }
    }
}
