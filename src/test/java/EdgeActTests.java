/** Sentence by sentence, what bounds the document sets for acts, years and images: promises 24 to 30, part 4. */
public final class EdgeActTests extends Edges {
    private static final String BASE = "many g{one x;maybe y;many z;}one n;";
    private static final String TWO = "[(1 - []) (2 5 [7 8])] 9;[] 4;";

    private static int seed;

    public static void main(String[] args) {
        drops();
        sets();
        damages();
        hiddenValues();
        undos();
        actsKept();
        status();
        yearsRefused();
        yearsDrawn();
        yearsFull();
        yearsSeeds();
        images();
        restores();
        manyCalls();
        end("EdgeActTests");
    }

    private static Bench base() {
        return Bench.made(BASE, TWO);
    }

    private static Bench wrongOne() {
        Bench b = Bench.busy();
        b.damage(0, 0, 0, 1);
        return b;
    }

    // ---- promise 24 ----

    private static void drops() {
        sentence("drop: the last RECORD is DROPPED: how many are left", () -> {
            Bench b = Bench.made("many a;one b;", "[1 2 3]4;[]5;[6]7;");
            due("left", b.drop(), 2);
            same("a", b.column(0), "01:1 11:2 11:3 00");
            same("b", b.column(1), "00:4 00:5");
            due("ACTS", b.count(14), 2);
            due("left", b.drop(), 1);
            due("left", b.drop(), 0);
            due("ENTRIES", b.count(3), 0);
            due("ACTS", b.count(14), 4);
            due("STATUS 1", b.count(17), 0);
        });
        sentence("drop: NONE (STATUS 1): there is none", () -> {
            nothingButStatus("no FIELDS", new Bench(), new Bench());
            nothingButStatus("no RECORDS", Bench.made(BASE), Bench.made(BASE));
            Bench b = Bench.made("one a;", "1;");
            b.drop();
            due("drop", b.drop(), NONE);
            due("drop", b.drop(), NONE);
            due("STATUS 1", b.count(17), 2);
            due("ACTS", b.count(14), 2);
            due("RECORDS", b.count(2), 0);
        });
        sentence("drop: NONE (STATUS 1): CHECK finds anything", () -> {
            allElseStays("wrong", EdgeActTests::wrongOne, b -> due("drop", b.drop(), NONE));
            Bench b = wrongOne();
            due("drop", b.drop(), NONE);
            due("STATUS 1", b.count(17), 2);
            due("STATUS 0", b.count(16), 1);
            b.undo();
            due("mended", b.drop(), 2);
        });
        sentence("drop: of 30, of 120 ENTRIES", () -> {
            Bench b = Bench.made("one a;", "1;".repeat(30));
            due("left", b.drop(), 29);
            Bench all = Bench.made("many a;", "[" + "7 ".repeat(119) + "8];");
            due("left", all.drop(), 0);
            due("ENTRIES", all.leaf(0, 1), 0);
            all.undo();
            due("ENTRIES", all.leaf(0, 1), 120);
            due("the first one's REP", all.entry(0, 0, 0), 0);
            due("the last one's REP", all.entry(0, 119, 0), 1);
            due("the last one's DEF", all.entry(0, 119, 1), 1);
            due("the last", all.entry(0, 119, 2), 8);
        });
        sentence("drop: each ENTRY comes back as it was", () -> {
            Bench b = Bench.made("many a{many b{many c{many d;}maybe e;}}one f;",
                    "[] 1;[([([([999 2]) ([])] 0) ([([3])] -)]) ([])] 998;");
            String d = b.column(0);
            String e = b.column(1);
            same("d", d, "00 04:999 44:2 33 24:3 11");
            same("e", e, "00 03:0 22 11");
            due("left", b.drop(), 1);
            due("left", b.drop(), 0);
            due("left", b.undo(), 2);
            due("left", b.undo(), 1);
            same("d", b.column(0), d);
            same("e", b.column(1), e);
            same("f", b.column(2), "00:1 00:998");
            same("told", b.told(1), "[([([([999 2]) ([])] 0) ([([3])] -)]) ([])] 998;");
        });
        sentence("drop: as it is damaged, as long as CHECK finds nothing", () -> {
            Bench b = Bench.made("maybe a;", "1;2;");
            b.damage(0, 1, 1, 0);
            due("left", b.drop(), 1);
            b.undo();
            due("as it was damaged", b.entry(0, 1, 2), NONE);
            b.undo();
            due("as it was", b.entry(0, 1, 2), 2);
        });
    }

    private static void nothingButStatus(String what, Bench refused, Bench plain) {
        due(what, refused.drop(), NONE);
        same(what, refused.kept(), plain.kept());
        due(what + ", STATUS 1", refused.count(17), 1);
        due(what + ", STATUS 0", refused.count(16), 0);
        due(what + ", ACTS", refused.undo(), NONE);
    }

    // ---- promise 25 ----

    private static void sets() {
        sentence("set: SET: the VALUE as it was", () -> {
            Bench b = base();
            due("as it was", b.set(0, 1, 999), 2);
            due("as it was", b.set(0, 1, 0), 999);
            due("as it was", b.set(0, 1, 1), 0);
            due("now", b.entry(0, 1, 2), 1);
            due("beside it", b.entry(0, 0, 2), 1);
            due("ACTS", b.count(14), 4);
            due("STATUS 1", b.count(17), 0);
        });
        sentence("set: NONE (STATUS 1): not 0 to 999", () -> {
            for (int value : new int[] {-1, -2, 1000, 1001, LEAST, MOST}) {
                allElseStays("set " + value, Bench::busy, b -> due("set", b.set(0, 1, value), NONE));
                Bench b = Bench.busy();
                b.set(0, 1, value);
                due("STATUS 1", b.count(17), 2);
                due("STATUS 0", b.count(16), 1);
            }
        });
        sentence("set: NONE (STATUS 1): it is so", () -> {
            Bench b = Bench.made("many a;", "[0 999 5];");
            due("0", b.set(0, 0, 0), NONE);
            due("999", b.set(0, 1, 999), NONE);
            due("5", b.set(0, 2, 5), NONE);
            due("STATUS 1", b.count(17), 3);
            due("ACTS", b.count(14), 1);
            same("all as it was", b.column(0), "01:0 11:999 11:5");
        });
        sentence("set: NONE (STATUS 1): the ENTRY has none", () -> {
            Bench b = base();
            due("set", b.set(1, 0, 3), NONE);
            due("set", b.set(0, 2, 0), NONE);
            b.damage(0, 1, 1, 0);
            due("its VALUE is unseen", b.set(0, 1, 3), NONE);
            b.damage(0, 1, 1, 9);
            due("its VALUE is unseen", b.set(0, 1, 3), NONE);
            due("STATUS 1", b.count(17), 4);
            b.undo();
            b.undo();
            due("as it was", b.entry(0, 1, 2), 2);
        });
        sentence("set: NoSuchElementException ahead of NONE; it isn't counted", () -> {
            Bench b = base();
            missing("no ENTRY, 1000", () -> b.set(0, 3, 1000));
            missing("no LEAF, 1000", () -> b.set(4, 0, 1000));
            missing("no ENTRY", () -> b.set(0, -1, 5));
            due("STATUS 1", b.count(17), 0);
            due("ACTS", b.count(14), 1);
        });
        sentence("set: also while anything is wrong", () -> {
            Bench b = wrongOne();
            due("set", b.set(0, 0, 7), 1);
            due("now", b.entry(0, 0, 2), 7);
            due("undone", b.undo(), 7);
            due("as it was", b.entry(0, 0, 2), 1);
        });
    }

    // ---- promise 26 ----

    private static void damages() {
        sentence("damage: DAMAGED (what 0 REP, 1 DEF): the number as it was", () -> {
            Bench b = base();
            for (int what = 0; what < 2; what++) {
                due("to 9", b.damage(2, 2, what, 9), 2);
                due("now", b.entry(2, 2, what), 9);
                due("the other level", b.entry(2, 2, 1 - what), 2);
                due("to 0", b.damage(2, 2, what, 0), 9);
                due("now", b.entry(2, 2, what), 0);
                due("to 2", b.damage(2, 2, what, 2), 0);
            }
            due("ACTS", b.count(14), 7);
            due("STATUS 1", b.count(17), 0);
        });
        sentence("damage: NONE (STATUS 1): not 0 to 9", () -> {
            for (int number : new int[] {-1, -2, 10, 11, 16, LEAST, MOST}) {
                for (int what = 0; what < 2; what++) {
                    int level = what;
                    allElseStays("damage " + number, Bench::busy, b -> due("damage", b.damage(2, 2, level, number), NONE));
                }
                Bench b = Bench.busy();
                b.damage(2, 2, 0, number);
                due("STATUS 1", b.count(17), 2);
                due("STATUS 0", b.count(16), 1);
            }
        });
        sentence("damage: NONE (STATUS 1): it is so", () -> {
            Bench b = base();
            due("REP", b.damage(2, 2, 0, 2), NONE);
            due("DEF", b.damage(2, 2, 1, 2), NONE);
            due("0", b.damage(3, 0, 0, 0), NONE);
            due("STATUS 1", b.count(17), 3);
            due("ACTS", b.count(14), 1);
            b.damage(2, 2, 0, 9);
            due("9", b.damage(2, 2, 0, 9), NONE);
            due("STATUS 1", b.count(17), 4);
            due("ACTS", b.count(14), 2);
        });
        sentence("damage: NoSuchElementException: also another what (ahead of NONE; it isn't counted)", () -> {
            Bench b = base();
            onlyUpTo(1, "what", i -> b.damage(0, 0, i, 4));
            missing("what 2, number 10", () -> b.damage(0, 0, 2, 10));
            missing("no ENTRY, number 10", () -> b.damage(0, 3, 0, 10));
            missing("no LEAF, what 2", () -> b.damage(4, 0, 2, 10));
            due("STATUS 1", b.count(17), 0);
        });
        sentence("damage: also while anything is wrong", () -> {
            Bench b = wrongOne();
            due("it goes on", b.damage(0, 0, 0, 2), 1);
            due("and is mended", b.damage(0, 0, 0, 0), 2);
            due("CHECK", b.count(9), 0);
            due("ACTS", b.count(14), 9);
        });
    }

    private static void hiddenValues() {
        sentence("(An ENTRY that has DEF of its LEAF by DAMAGE has the VALUE that stood there ..", () -> {
            Bench b = Bench.made("maybe a;", "5;");
            b.damage(0, 0, 1, 0);
            due("unseen", b.entry(0, 0, 2), NONE);
            b.damage(0, 0, 1, 1);
            due("the VALUE that stood there", b.entry(0, 0, 2), 5);
            b.damage(0, 0, 1, 9);
            due("unseen", b.entry(0, 0, 2), NONE);
            b.damage(0, 0, 1, 1);
            due("the VALUE that stood there", b.entry(0, 0, 2), 5);
        });
        sentence(".. 0 if none ever did; one that hasn't keeps it unseen.)", () -> {
            Bench b = Bench.made("maybe a{maybe b;}many c;", "- [];(-) [];");
            b.damage(0, 0, 1, 2);
            due("of '-'", b.entry(0, 0, 2), 0);
            b.damage(0, 1, 1, 2);
            due("of '(-)'", b.entry(0, 1, 2), 0);
            b.damage(1, 0, 1, 1);
            due("of '[]'", b.entry(1, 0, 2), 0);
            due("it can be SET", b.set(1, 0, 7), 0);
            b.damage(1, 0, 1, 0);
            due("unseen", b.entry(1, 0, 2), NONE);
            b.damage(1, 0, 1, 1);
            due("kept", b.entry(1, 0, 2), 7);
        });
        sentence("unseen VALUES are kept by drop and undo, by image and restore", () -> {
            Bench b = Bench.made("maybe a;", "5;");
            b.damage(0, 0, 1, 0);
            b.image();
            b.drop();
            b.add("8;");
            b.undo();
            b.undo();
            b.damage(0, 0, 1, 1);
            due("by undo", b.entry(0, 0, 2), 5);
            b.undo();
            b.drop();
            b.add("9;");
            b.restore();
            b.damage(0, 0, 1, 1);
            due("by restore", b.entry(0, 0, 2), 5);
        });
        sentence("another RECORD's ENTRY never had the VALUE of one that was dropped, or undone", () -> {
            Bench b = Bench.made("maybe a;", "5;");
            b.drop();
            b.add("-;");
            b.damage(0, 0, 1, 1);
            due("dropped", b.entry(0, 0, 2), 0);
            Bench c = Bench.made("maybe a;", "5;");
            c.undo();
            c.add("-;");
            c.damage(0, 0, 1, 1);
            due("undone", c.entry(0, 0, 2), 0);
        });
    }

    // ---- promise 27 ----

    private static void undos() {
        sentence("undo: NONE: there is none", () -> {
            nothingChanges("no ACTS", Bench::new, b -> due("undo", b.undo(), NONE));
            nothingChanges("no ACTS", () -> Bench.made(BASE), b -> due("undo", b.undo(), NONE));
            nothingChanges("all are undone", EdgeActTests::allUndone, b -> {
                due("undo", b.undo(), NONE);
                due("undo", b.undo(), NONE);
            });
        });
        sentence("undo: the last ACT is UNDONE: how many are left", () -> {
            Bench b = base();
            b.set(3, 0, 1);
            due("left", b.undo(), 1);
            due("as it was", b.entry(3, 0, 2), 9);
            due("left", b.undo(), 0);
            due("RECORDS", b.count(2), 0);
            due("ENTRIES", b.count(3), 0);
        });
        sentence("They are UNDONE, the last one first: each as ahead of it", () -> {
            String[] states = new String[8];
            Bench b = Bench.made("maybe a;many b;");
            states[0] = columns(b);
            b.add("1 [2 3];- [];");
            states[1] = columns(b);
            b.set(1, 1, 4);
            states[2] = columns(b);
            b.damage(1, 1, 0, 0);
            states[3] = columns(b);
            b.damage(0, 0, 1, 7);
            states[4] = columns(b);
            b.damage(0, 0, 1, 1);
            states[5] = columns(b);
            b.damage(1, 1, 0, 1);
            states[6] = columns(b);
            b.drop();
            states[7] = columns(b);
            b.add("7 [8 9];");
            for (int left = 7; left >= 0; left--) {
                due("left", b.undo(), left);
                same("as ahead of it", columns(b), states[left]);
            }
        });
        sentence("undo: also while anything is wrong; it is no ACT itself", () -> {
            Bench b = wrongOne();
            due("ACTS", b.count(14), 7);
            due("left", b.undo(), 6);
            due("ACTS", b.count(14), 6);
            due("CHECK", b.count(9), 0);
            due("STATUS 1", b.count(17), 1);
        });
        sentence("undo leaves VIEW, PIPE, STATUS, the tape, the image", () -> {
            Bench b = Bench.busyWithTape();
            b.undo();
            due("VIEW", b.count(6), 6);
            due("PIPE", b.count(7), 2);
            due("STATUS 0", b.count(16), 1);
            due("STATUS 1", b.count(17), 1);
            due("the tape", b.count(15), 20);
            due("the image", b.restore(), 1);
            due("of two ACTS", b.count(14), 2);
        });
    }

    private static Bench allUndone() {
        Bench b = base();
        b.set(0, 0, 7);
        b.undo();
        b.undo();
        return b;
    }

    private static String columns(Bench b) {
        return b.count(2) + ": " + b.column(0) + " | " + b.column(1);
    }

    private static void actsKept() {
        sentence("ACTS (at most 40 are kept, the latest ones): 39, 40, 41", () -> {
            for (int acts = 39; acts <= 42; acts++) {
                Bench b = Bench.made("one a;", "0;");
                for (int i = 1; i < acts; i++) {
                    b.set(0, 0, i);
                    due("ACTS", b.count(14), Math.min(40, i + 1));
                }
                int kept = Math.min(40, acts);
                for (int left = kept - 1; left >= 0; left--) {
                    due("left", b.undo(), left);
                    if (b.count(2) == 1) {
                        due("VALUE", b.entry(0, 0, 2), acts - 1 - kept + left);
                    }
                }
                due("no more", b.undo(), NONE);
                due("RECORDS", b.count(2), acts <= 40 ? 0 : 1);
                if (acts > 40) {
                    due("VALUE", b.entry(0, 0, 2), acts - 41);
                }
            }
        });
        sentence("at most 40 are kept, of any kind", () -> {
            Bench b = Bench.made("maybe a;");
            for (int i = 0; i < 30; i++) {
                b.add(i + ";");
            }
            due("ACTS", b.count(14), 30);
            for (int i = 0; i < 8; i++) {
                b.drop();
            }
            b.set(0, 0, 77);
            b.damage(0, 0, 1, 0);
            due("ACTS", b.count(14), 40);
            b.damage(0, 0, 1, 1);
            due("one more", b.count(14), 40);
            b.add("99;");
            due("one more", b.count(14), 40);
            for (int left = 39; left >= 0; left--) {
                due("left", b.undo(), left);
            }
            due("the first two are kept for good", b.count(2), 2);
            same("they are", b.column(0), "01:0 01:1");
        });
        sentence("refused calls are no ACTS", () -> {
            Bench b = Bench.made("one a;", "5;");
            b.set(0, 0, 5);
            b.set(0, 0, 1000);
            b.damage(0, 0, 0, 10);
            b.damage(0, 0, 0, 0);
            b.add("x");
            b.pipe("x");
            b.view("x");
            b.schema("x");
            due("ACTS", b.count(14), 1);
            due("undo", b.undo(), 0);
            b.drop();
            due("ACTS", b.count(14), 0);
        });
    }

    // ---- STATUS ----

    private static void status() {
        sentence("STATUS: 0 TEXTS with a FAULT", () -> {
            Bench b = Bench.made("one a;");
            b.schema("x");
            due("schema", b.count(16), 1);
            b.add("x");
            due("add", b.count(16), 2);
            b.view("x");
            due("view", b.count(16), 3);
            b.pipe("x");
            due("pipe", b.count(16), 4);
            b.add("1;");
            b.view("one a;");
            b.pipe("gap 1;");
            due("right ones", b.count(16), 4);
            due("no ACT", b.count(17), 0);
            b.schema("one a;");
            due("a new SCHEMA", b.count(16), 4);
        });
        sentence("STATUS: 1 ACTS (but by a FAULT)", () -> {
            Bench b = Bench.made("one a;", "5;");
            b.set(0, 0, 5);
            due("set", b.count(17), 1);
            b.damage(0, 0, 0, 10);
            due("damage", b.count(17), 2);
            b.damage(0, 0, 0, 1);
            due("a right one", b.count(17), 2);
            b.drop();
            due("drop", b.count(17), 3);
            b.add("1;");
            due("add", b.count(17), 4);
            due("no TEXT", b.count(16), 0);
            b.undo();
            b.add("x");
            due("a FAULT", b.count(17), 4);
            due("a FAULT", b.count(16), 1);
            b.schema("one a;");
            due("a new SCHEMA", b.count(17), 4);
        });
        sentence("STATUS: neither counts undo(), restore(), feed() with NONE, nor what throws", () -> {
            Bench b = Bench.made("one a;");
            b.undo();
            b.restore();
            for (int i = 0; i < 36; i++) {
                b.feed(0, 0, 0, 0, 0);
            }
            argument("schema", () -> b.schema(701));
            argument("add", () -> b.add(-1));
            missing("set", () -> b.set(0, 0, 0));
            missing("damage", () -> b.damage(0, 0, 0, 0));
            argument("years", () -> b.years(0, 11, 0));
            due("STATUS 0", b.count(16), 0);
            due("STATUS 1", b.count(17), 0);
        });
    }

    // ---- promise 28 ----

    private static int draw(int n) {
        seed = seed * 1103515245 + 12345;
        return (seed >> 16 & 32767) % n;
    }

    private static void yearsRefused() {
        sentence("years: NoSuchElementException: another what. IllegalArgumentException (behind that): n not 0 to 10", () -> {
            Bench b = base();
            onlyUpTo(2, "what", i -> b.years(1, 1, i));
            for (int n : new int[] {-1, -2, 11, 12, LEAST, MOST}) {
                argument("n " + n, () -> b.years(1, n, 0));
                argument("n " + n, () -> b.years(1, n, 2));
                missing("what 3, n " + n, () -> b.years(1, n, 3));
                missing("what -1, n " + n, () -> b.years(1, n, -1));
            }
            taken("n 0", () -> b.years(1, 0, 0));
            taken("n 10", () -> b.years(1, 10, 0));
            Bench none = new Bench();
            argument("no FIELDS, n 11", () -> none.years(1, 11, 0));
            missing("no FIELDS, what 3", () -> none.years(1, 1, 3));
        });
        sentence("(0 for all, if CHECK finds anything, without FIELDS.)", () -> {
            Bench wrong = wrongOne();
            Bench none = new Bench();
            for (int what = 0; what < 3; what++) {
                int at = what;
                due("wrong", wrong.years(1, 10, what), 0);
                due("wrong, of no years", wrong.years(1, 0, what), 0);
                argument("wrong, n 11", () -> wrong.years(1, 11, at));
                due("no FIELDS", none.years(1, 10, what), 0);
            }
            due("STATUS 1", wrong.count(17), 1);
            due("STATUS 1", none.count(17), 0);
        });
        sentence("years: 0: what there is", () -> {
            Bench b = base();
            due("RECORDS", b.years(5, 0, 0), 2);
            due("VALUES", b.years(5, 0, 1), 1 + 2 + 5 + 7 + 8 + 9 + 4);
            due("ENTRIES", b.years(5, 0, 2), 12);
            b.damage(1, 1, 1, 1);
            due("VALUES that are seen", b.years(5, 0, 1), 31);
            Bench empty = Bench.made(BASE);
            for (int what = 0; what < 3; what++) {
                due("of nothing", empty.years(5, 0, what), 0);
            }
        });
        sentence("(All as ever behind it)", () -> {
            nothingChanges("years", Bench::busyWithTape, b -> {
                b.years(1, 10, 0);
                b.years(2, 10, 1);
                b.years(3, 10, 2);
            });
            Bench b = Bench.made("maybe a;", "-;");
            int sum = b.years(9, 10, 1);
            due("again the same", b.years(9, 10, 1), sum);
            b.add("-;");
            b.damage(0, 1, 1, 1);
            due("no VALUE of a year stands there", b.entry(0, 1, 2), 0);
        });
    }

    private static void yearsDrawn() {
        sentence("FIELD by FIELD: MAYBE a DRAW of 2 (0: '-'), MANY a DRAW of 3, how many ITEMS, a LEAF a DRAW of 100", () -> {
            String[] schemas = {"one a;", "maybe a;", "many a;"};
            for (int kind = 0; kind < 3; kind++) {
                for (int n = 0; n <= 10; n++) {
                    seed = 1000 + n;
                    int sum = 0;
                    int entries = 0;
                    for (int i = 0; i < n; i++) {
                        int items = kind == 0 ? 1 : draw(kind == 1 ? 2 : 3);
                        entries += Math.max(1, items);
                        for (int k = 0; k < items; k++) {
                            sum += draw(100);
                        }
                    }
                    Bench b = Bench.made(schemas[kind]);
                    due("RECORDS of " + n, b.years(1000 + n, n, 0), n);
                    due("VALUES of " + n, b.years(1000 + n, n, 1), sum);
                    due("ENTRIES of " + n, b.years(1000 + n, n, 2), entries);
                }
            }
        });
        sentence("then these, one behind the other: GROUPS in GROUPS", () -> {
            Bench b = Bench.made("many a{one b;maybe c{many d;one e;}}maybe f{one g;}");
            for (int start = 0; start < 20; start++) {
                seed = start * 7919;
                int[] got = drawDeep(10);
                due("VALUES", b.years(start * 7919, 10, 1), got[0]);
                due("ENTRIES", b.years(start * 7919, 10, 2), got[1]);
            }
        });
    }

    /** Of 'many a{one b;maybe c{many d;one e;}}maybe f{one g;}': VALUES summed, and ENTRIES. */
    private static int[] drawDeep(int n) {
        int[] got = new int[2];
        for (int i = 0; i < n; i++) {
            int items = draw(3);
            got[1] += items == 0 ? 3 : 0;
            for (int k = 0; k < items; k++) {
                got[0] += draw(100);
                got[1]++;
                if (draw(2) == 0) {
                    got[1] += 2;
                } else {
                    int inner = draw(3);
                    for (int j = 0; j < inner; j++) {
                        got[0] += draw(100);
                    }
                    got[0] += draw(100);
                    got[1] += Math.max(1, inner) + 1;
                }
            }
            got[0] += draw(2) == 0 ? 0 : draw(100);
            got[1]++;
        }
        return got;
    }

    private static void yearsFull() {
        sentence("each ADDED, if there are fewer than 30", () -> {
            for (int there = 19; there <= 30; there++) {
                Bench b = Bench.made("one a;", "1;".repeat(there));
                int due = Math.min(30, there + 10);
                due("RECORDS", b.years(4, 10, 0), due);
                due("ENTRIES", b.years(4, 10, 2), due);
                seed = 4;
                int sum = there;
                for (int i = there; i < due; i++) {
                    sum += draw(100);
                }
                due("VALUES", b.years(4, 10, 1), sum);
            }
        });
        sentence("and no LEAF would have more than 120 ENTRIES (what isn't ADDED is drawn all the same)", () -> {
            for (int start = 0; start < 12; start++) {
                for (int there = 115; there <= 120; there++) {
                    Bench b = Bench.made("one c;many a;", "3[" + "1 ".repeat(there) + "];");
                    int[] got = drawInto(there, start);
                    due("RECORDS", b.years(start, 10, 0), got[0]);
                    due("VALUES", b.years(start, 10, 1), got[1]);
                    due("ENTRIES", b.years(start, 10, 2), got[2]);
                }
            }
            Bench first = Bench.made("many a;one c;", "[" + "1 ".repeat(120) + "]3;");
            due("of the first LEAF", first.years(5, 10, 0), 1);
            due("of the first LEAF", first.years(5, 10, 1), 123);
            due("of the first LEAF", first.years(5, 10, 2), 121);
        });
        sentence("years: of eight LEAVES", () -> {
            Bench b = Bench.made("maybe a;maybe b;maybe c;maybe d;maybe e;maybe f;maybe g;maybe h;");
            seed = 8;
            int sum = 0;
            for (int i = 0; i < 80; i++) {
                sum += draw(2) == 0 ? 0 : draw(100);
            }
            due("VALUES", b.years(8, 10, 1), sum);
            due("ENTRIES", b.years(8, 10, 2), 80);
        });
        sentence("years: GROUPS in as many others as there can be", () -> {
            Bench b = Bench.made("one a{one b{one c{one d;}}}");
            seed = 6;
            int sum = 0;
            for (int i = 0; i < 10; i++) {
                sum += draw(100);
            }
            due("VALUES", b.years(6, 10, 1), sum);
            due("ENTRIES", b.years(6, 10, 2), 10);
            due("RECORDS", b.years(6, 10, 0), 10);
        });
    }

    /** Of 'one c;many a;' with one RECORD of so many: RECORDS, VALUES summed, ENTRIES. */
    private static int[] drawInto(int there, int start) {
        seed = start;
        int records = 1;
        int sum = 3 + there;
        int size = there;
        for (int i = 0; i < 10; i++) {
            int drawn = draw(100);
            int items = draw(3);
            for (int k = 0; k < items; k++) {
                drawn += draw(100);
            }
            if (size + Math.max(1, items) <= 120) {
                size += Math.max(1, items);
                sum += drawn;
                records++;
            }
        }
        return new int[] {records, sum, size + records};
    }

    private static void yearsSeeds() {
        sentence("A seed becomes itself times 1103515245 and 12345 (an int that wraps); its bits 16 to 30 MOD n then", () -> {
            Bench b = Bench.made("one a;");
            for (int start : new int[] {0, 1, -1, LEAST, MOST, 65535, 65536, 1 << 30, -12345}) {
                seed = start;
                int due = draw(100);
                due("one year of " + start, b.years(start, 1, 1), due);
                due("two years of " + start, b.years(start, 2, 1), due + draw(100));
            }
            // 0 becomes 12345, whose bits from 16 on are 0; 1 becomes 1103527590, of which they are 16838
            due("of 0", b.years(0, 1, 1), 0);
            due("of 1", b.years(1, 1, 1), 38);
        });
    }

    // ---- promises 29, 30 ----

    private static void images() {
        sentence("image: AN IMAGE is kept, in place of another one", () -> {
            Bench b = Bench.made("one a;", "1;");
            b.image();
            b.add("2;");
            b.image();
            b.add("3;");
            due("restored", b.restore(), 1);
            due("the second one", b.count(2), 2);
            due("its ACTS", b.count(14), 2);
        });
        sentence("image: nothing else changes", () -> {
            Bench b = Bench.busyWithTape();
            b.image();
            same("all", b.all(), Bench.busyWithTape().all());
            Bench c = Bench.busyWithTape();
            c.image();
            same("acts", c.undone(), Bench.busyWithTape().undone());
        });
        sentence("image: of nothing, of no RECORDS", () -> {
            Bench b = new Bench();
            b.image();
            due("restored", b.restore(), 1);
            same("all", b.all(), new Bench().all());
            Bench c = Bench.made("one a;");
            c.image();
            c.add("1;");
            due("restored", c.restore(), 1);
            due("RECORDS", c.count(2), 0);
            due("ACTS", c.count(14), 0);
            due("ENTRIES", c.count(3), 0);
        });
        sentence("image: of what is wrong", () -> {
            Bench b = wrongOne();
            b.image();
            b.undo();
            due("CHECK", b.count(9), 0);
            due("restored", b.restore(), 1);
            same("wrong again", b.check(), "1 0 0");
            due("ACTS", b.count(14), 7);
        });
        sentence("image: REP, DEF, VALUE of each ENTRY", () -> {
            Bench b = Bench.made("many a{maybe b;}", "[(1) (-) (2)];[];");
            b.damage(0, 2, 1, 1);
            b.damage(0, 1, 0, 0);
            b.set(0, 0, 7);
            b.image();
            String due = b.column(0);
            same("as damaged", due, "02:7 01 11 00");
            b.undo();
            b.undo();
            b.undo();
            same("undone", b.column(0), "02:1 11 12:2 00");
            b.restore();
            same("as damaged", b.column(0), due);
            b.damage(0, 3, 1, 9);
            b.damage(0, 0, 0, 9);
            b.restore();
            same("as damaged", b.column(0), due);
            b.undo();
            b.undo();
            b.undo();
            due("mended", b.drop(), 1);
            b.drop();
            b.restore();
            same("as damaged", b.column(0), due);
        });
        sentence("image: all RECORDS, ACTS that are kept: as many as there can be", () -> {
            Bench b = Bench.made("one a;", "1;".repeat(30));
            for (int i = 0; i < 45; i++) {
                b.set(0, 29, i + 2);
            }
            b.image();
            for (int i = 0; i < 45; i++) {
                b.set(0, 29, i + 100);
            }
            due("undo", b.undo(), 39);
            due("restored", b.restore(), 1);
            due("ACTS", b.count(14), 40);
            due("RECORDS", b.count(2), 30);
            due("VALUE", b.entry(0, 29, 2), 46);
            for (int left = 39; left >= 0; left--) {
                due("left", b.undo(), left);
            }
            due("VALUE", b.entry(0, 29, 2), 6);
        });
    }

    private static void restores() {
        sentence("restore: False: there is none", () -> {
            nothingChanges("new", Bench::new, b -> due("restore", b.restore(), 0));
            nothingChanges("no image", EdgeActTests::base, b -> due("restore", b.restore(), 0));
            Bench b = Bench.busy();
            b.schema("one a;");
            due("gone by a SCHEMA", b.restore(), 0);
            b.image();
            due("another one", b.restore(), 1);
        });
        sentence("restore: It is as the IMAGE again: true", () -> {
            Bench b = base();
            b.set(0, 0, 7);
            b.set(0, 0, 7);
            b.pipe("?");
            b.image();
            String due = Bench.made(BASE, TWO.replace("(1 ", "(7 ")).told(0);
            b.add("[(9 9 [9])] 9;");
            b.drop();
            b.drop();
            b.drop();
            b.drop();
            b.pipe("?");
            for (int i = 0; i < 3; i++) {
                due("restored", b.restore(), 1);
                due("RECORDS", b.count(2), 2);
                due("ACTS", b.count(14), 2);
                due("STATUS 0", b.count(16), 1);
                due("STATUS 1", b.count(17), 1);
                same("record 0", b.told(0), due);
                same("record 1", b.told(1), "[] 4;");
                due("undone", b.undo(), 1);
                due("VALUE", b.entry(0, 0, 2), 1);
                due("undone", b.undo(), 0);
                due("RECORDS", b.count(2), 0);
                due("no more", b.undo(), NONE);
            }
        });
        sentence("restore: it is no ACT, and can't be undone", () -> {
            Bench b = Bench.made("one a;", "1;");
            b.image();
            b.restore();
            due("ACTS", b.count(14), 1);
            due("undo", b.undo(), 0);
            due("RECORDS", b.count(2), 0);
            due("restored", b.restore(), 1);
            due("RECORDS", b.count(2), 1);
        });
        sentence("(SCHEMA, VIEW, PIPE are the same as long as there is one)", () -> {
            Bench b = Bench.busyWithTape();
            b.restore();
            due("FIELDS", b.count(0), 5);
            due("VIEW", b.count(6), 6);
            due("PIPE", b.count(7), 2);
            due("the tape", b.count(15), 20);
            due("the FAULT's place", b.fault(), 5);
            same("seen", b.seenText(1), "4 - [];");
            Bench c = Bench.busy();
            c.view("one n;");
            c.pipe("first 1;");
            c.restore();
            due("VIEW", c.count(6), 1);
            same("seen", c.seenText(1), "4;");
            due("PIPE", c.count(7), 1);
            same("piped", c.pipedValues(3), "9");
        });
        sentence("restore: what comes behind it is told as ever", () -> {
            Bench b = Bench.made("many a;", "[1 2];");
            b.image();
            b.drop();
            b.restore();
            b.add("[3];");
            same("a", b.column(0), "01:1 11:2 01:3");
            b.restore();
            same("a", b.column(0), "01:1 11:2");
            due("a FAULT leaves it", b.schema("x"), 1);
            due("restored", b.restore(), 1);
            due("STATUS 0 as in the image", b.count(16), 0);
        });
    }

    // ---- all calls ----

    private static void manyCalls() {
        sentence("An object is used for at most 512 calls after it has been made", () -> {
            Bench b = Bench.made("many a;one b;", "[1 2 3]4;");
            for (int i = 0; b.calls() < 505; i++) {
                b.set(0, 1, 5 + i % 900);
            }
            int last = b.entry(0, 1, 2);
            due("ACTS", b.count(14), 40);
            same("CHECK", b.check(), "0 -1 -1");
            due("the 511th", b.fold(0, 1), 4 + last);
            due("the 512th", b.undo(), 39);
            due("calls", b.calls(), 512);
        });
    }
}
