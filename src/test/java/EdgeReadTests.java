/** Sentence by sentence, what bounds the document sets for calls that only ask: promises 8 to 23, parts 2 and 3. */
public final class EdgeReadTests extends Edges {
    private static final String BASE = "many g{one x;maybe y;many z;}one n;";
    private static final String TWO = "[(1 - []) (2 5 [7 8])] 9;[] 4;";
    private static final String DEEP = "many a{many b{many c{many d;}}}one e;";

    public static void main(String[] args) {
        counts();
        countsFull();
        greatest();
        covers();
        checks();
        checksOfTwo();
        harmless();
        fields();
        leaves();
        entries();
        walked();
        skips();
        machine();
        machineRefuses();
        told();
        toldRefuses();
        reads();
        seen();
        folds();
        picked();
        pages();
        piped();
        steps();
        askingChangesNothing();
        end("EdgeReadTests");
    }

    private static Bench base() {
        return Bench.made(BASE, TWO);
    }

    /** Eight leaves of a group, 120 entries each. */
    private static Bench full() {
        String sixty = "[" + "(--------)".repeat(60) + "];";
        return Bench.made("many g{maybe a;maybe b;maybe c;maybe d;maybe e;maybe f;maybe h;maybe i;}", sixty, sixty);
    }

    // ---- promise 8 ----

    private static void counts() {
        sentence("count: NoSuchElementException: another what", () -> {
            onlyUpTo(17, "count, no FIELDS", new Bench()::count);
            onlyUpTo(17, "count", Bench.busy()::count);
        });
        sentence("count: without RECORDS", () -> {
            Bench b = Bench.made(BASE);
            int[] due = {5, 4, 0, 0, 2, 2, 0, 0, 6, 0, NONE, NONE, 0, NONE, 0, 0, 0, 0};
            for (int what = 0; what < due.length; what++) {
                due("count(" + what + ")", b.count(what), due[what]);
            }
        });
        sentence("count: of all there is", () -> {
            Bench b = Bench.busyWithTape();
            int[] due = {5, 4, 3, 16, 2, 2, 6, 2, 6, 0, NONE, NONE, 5, 10012, 6, 20, 1, 1};
            for (int what = 0; what < due.length; what++) {
                due("count(" + what + ")", b.count(what), due[what]);
            }
        });
        sentence("4 the greatest DEF, 5 REP of LEAVES", () -> {
            Bench ones = Bench.made("one a{one b{one c{one d;}}}");
            due("DEF of none", ones.count(4), 0);
            due("REP of none", ones.count(5), 0);
            Bench deep = Bench.made(DEEP);
            due("DEF", deep.count(4), 4);
            due("REP", deep.count(5), 4);
            Bench maybe = Bench.made("one z;maybe a{maybe b{maybe c{maybe d;}}}many e;");
            due("DEF of the second", maybe.count(4), 4);
            due("REP of the last", maybe.count(5), 1);
            for (int i = 0; i < 3; i++) {
                maybe.schema("one z;maybe a;");
                due("DEF of a new SCHEMA", maybe.count(4), 1);
                due("REP of a new SCHEMA", maybe.count(5), 0);
            }
        });
    }

    private static void countsFull() {
        sentence("3 ENTRIES of all LEAVES: as many as there can be", () -> {
            Bench b = full();
            due("LEAVES", b.count(1), 8);
            due("ENTRIES", b.count(3), 960);
            due("RECORDS", b.count(2), 2);
            due("the last", b.entry(7, 119, 1), 1);
            missing("one more", () -> b.entry(7, 120, 1));
            due("CHECK", b.count(9), 0);
            b.damage(7, 119, 0, 9);
            same("the last is wrong", b.check(), "1 7 119");
            b.undo();
            b.damage(7, 119, 1, 0);
            same("the last is wrong", b.check(), "3 7 119");
        });
        sentence("2 RECORDS: as many as there can be", () -> {
            Bench b = Bench.made("one a;", "7;".repeat(30));
            due("RECORDS", b.count(2), 30);
            same("the last", b.told(29), "7;");
            missing("one more", () -> b.length(30, 1));
        });
    }

    private static void greatest() {
        sentence("FIELDS (at most 16), LEAVES (at most 8), RECORDS, ENTRIES: as many as there can be", () -> {
            Bench b = Bench.greatest();
            int[] due = {16, 8, 30, 330, 4, 4, 0, 0, 95, 0, NONE, NONE};
            for (int what = 0; what < due.length; what++) {
                due("count(" + what + ")", b.count(what), due[what]);
            }
            due("ENTRIES of LEAF 0", b.leaf(0, 1), 120);
            due("ENTRIES of LEAF 7", b.leaf(7, 1), 30);
            due("length", b.length(0, 255), 222);
            same("the others", b.told(0, 254), "[([([(2)] 3)] 4)] (((5 6))) [((7 8))];");
            same("the last RECORD", b.told(29), "[] - [];");
            due("reads", b.reads(0, 255), 98);
            due("reads of the last", b.reads(29, 255), 8);
            due("RUNS", b.leaf(0, 2), 3);
            due("PAGES", b.pages(0, 91), 2);
            due("PICKED", b.picked(7, 0, 8), 1);
            due("none at all", b.picked(7, 3, 0), (1 << 30) - 2);
            due("piped", b.piped(7, NONE), 1);
        });
        sentence("as many as there can be: acts, a VIEW, years, an image", () -> {
            Bench b = Bench.greatest();
            b.view("many m{one n{one p;one o;}}maybe h{maybe i{maybe j{one l;maybe k;}}}"
                    + "many a{maybe g;many b{maybe f;many c{maybe e;}}}");
            due("FIELDS of the VIEW", b.count(6), 15);
            same("seen", b.seenText(0), "[((8 7))] (((6 5))) [(4 [(3 [(2)])])];");
            same("seen", b.seenText(29), "[] - [];");
            b.view("maybe z;");
            same("seen", b.seenText(0), "-;");
            due("years", b.years(3, 10, 0), 30);
            due("years", b.years(3, 10, 2), 330);
            b.image();
            due("drop", b.drop(), 29);
            due("years", b.years(3, 0, 2), 322);
            taken("years", () -> b.years(3, 10, 2));
            for (int left = 28; left >= 0; left--) {
                due("drop", b.drop(), left);
            }
            due("ENTRIES", b.count(3), 0);
            taken("years", () -> b.years(3, 10, 2));
            for (int left = 30; left >= 1; left--) {
                due("undo", b.undo(), left);
            }
            due("ENTRIES", b.count(3), 330);
            due("the last of the first", b.entry(0, 90, 0), 4);
            due("restored", b.restore(), 1);
            due("ENTRIES", b.count(3), 330);
            due("undo", b.undo(), 0);
            due("ENTRIES", b.count(3), 0);
        });
    }

    private static void covers() {
        sentence("COVER: the fewest LEAVES of which each MAYBE and MANY FIELD has one in it (or is it)", () -> {
            String[][] due = {{"one a;", "0"}, {"one a;one b{one c;}", "0"}, {"maybe a;", "1"}, {"one a;many b;", "2"},
                {"maybe a;maybe b;", "3"}, {"many g{one a;one b;}", "1"}, {"many g{one a;maybe b;}", "2"},
                {"many g{maybe a;maybe b;}", "3"}, {"one g{maybe a{one b;one c;}}", "1"},
                {"maybe g{one a;one b{many c{one d;one e;}}}", "2"}, {BASE, "6"},
                {"maybe a{one b;}one c{maybe d{one e;one f;}}many h;", "11"},
                {"maybe a;maybe b;maybe c;maybe d;maybe e;maybe f;maybe g;maybe h;", "255"}};
            for (String[] d : due) {
                due("COVER of " + d[0], Bench.made(d[0]).count(8), Integer.parseInt(d[1]));
            }
        });
        sentence("COVER: of as few the least as bits", () -> {
            due("the first of two", Bench.made("many a{one b;one c;one d;}").count(8), 1);
            due("of each group the first", Bench.made("many a{one b;one c;}maybe d{one e;one f;}").count(8), 5);
            due("fewest ahead of least", Bench.made("many a{one b;one c;maybe d{one e;}}").count(8), 4);
        });
    }

    // ---- CHECK ----

    private static void wrongBy(Bench b, int leaf, int entry, int what, int number, String due) {
        due("damage", b.damage(leaf, entry, what, number) == NONE ? 1 : 0, 0);
        same("by " + leaf + " " + entry + " " + what + " " + number, b.check(), due);
        due("HARMLESS of what is wrong", b.count(12) != 0 && !due.startsWith("0") ? 1 : 0, 0);
        b.undo();
        same("undone", b.check(), "0 -1 -1");
    }

    private static void checks() {
        sentence("CHECK 1: REP above that of the LEAF, or not 0 at ENTRY 0", () -> {
            Bench b = Bench.made("many a{many b;}one c;", "[([1 2 3])]5;");
            wrongBy(b, 0, 2, 0, 3, "1 0 2");
            wrongBy(b, 0, 2, 0, 9, "1 0 2");
            wrongBy(b, 0, 2, 0, 1, "0 -1 -1");
            wrongBy(b, 0, 0, 0, 1, "1 0 0");
            wrongBy(b, 0, 0, 0, 2, "1 0 0");
            wrongBy(b, 1, 0, 0, 1, "1 1 0");
        });
        sentence("CHECK 2: DEF above that of the LEAF", () -> {
            Bench b = Bench.made("maybe a;one b;", "-5;");
            wrongBy(b, 0, 0, 1, 1, "0 -1 -1");
            wrongBy(b, 0, 0, 1, 2, "2 0 0");
            wrongBy(b, 1, 0, 1, 1, "2 1 0");
            wrongBy(b, 1, 0, 1, 9, "2 1 0");
        });
        sentence("CHECK 3: this ENTRY, or the one ahead, has a DEF below that of the MANY FIELD whose REP it is", () -> {
            Bench b = Bench.made("maybe m{many a{maybe k;}}", "([(1) (2) (3)]);");
            wrongBy(b, 0, 2, 1, 2, "0 -1 -1");
            wrongBy(b, 0, 2, 1, 1, "3 0 2");
            wrongBy(b, 0, 1, 1, 1, "3 0 1");
            wrongBy(b, 0, 0, 1, 1, "3 0 1");
            wrongBy(b, 0, 0, 1, 2, "0 -1 -1");
            Bench c = Bench.made("many a{many b;}", "[([1 2]) ([]) ([3])];");
            same("levels", c.column(0), "02:1 22:2 11 12:3");
            wrongBy(c, 0, 2, 0, 2, "3 0 2");
            wrongBy(c, 0, 3, 0, 2, "3 0 3");
            wrongBy(c, 0, 2, 1, 0, "3 0 2");
            wrongBy(c, 0, 1, 0, 1, "0 -1 -1");
        });
        sentence("CHECK 4 (at how many ENTRIES there are): not as many of REP 0 as RECORDS", () -> {
            Bench b = Bench.made("many a;one b;", "[1 2]3;[4]5;");
            wrongBy(b, 0, 1, 0, 0, "4 0 3");
            wrongBy(b, 0, 2, 0, 1, "4 0 3");
            Bench c = Bench.made("one b;many a;", "3[1 2];5[4];");
            wrongBy(c, 1, 1, 0, 0, "4 1 3");
        });
        sentence("CHECK: what of one ENTRY is least; the first by ENTRIES; by LEAVES", () -> {
            Bench b = Bench.made("many a;maybe c;", "[1 2 3]7;[4]8;");
            b.damage(0, 3, 1, 9);
            same("2", b.check(), "2 0 3");
            b.damage(0, 3, 0, 9);
            same("1 and 2 of one ENTRY", b.check(), "1 0 3");
            b.damage(1, 0, 0, 9);
            same("by LEAVES", b.check(), "1 0 3");
            b.damage(0, 2, 1, 0);
            same("3 of an ENTRY ahead", b.check(), "3 0 2");
            b.damage(0, 2, 1, 9);
            same("2 of it", b.check(), "2 0 2");
            b.undo();
            b.undo();
            b.damage(0, 3, 0, 1);
            same("2 ahead of 3", b.check(), "2 0 3");
            b.damage(0, 3, 1, 1);
            same("4 behind all ENTRIES, ahead of the next LEAF", b.check(), "4 0 4");
            due("LEAF", b.count(10), 0);
        });
    }

    private static void checksOfTwo() {
        sentence("CHECK 5: the first such ENTRY of this LEAF that is unlike its fellow", () -> {
            Bench b = Bench.made("many g{one a;maybe b;}", "[(1 2) (3 -)];[];");
            wrongBy(b, 0, 2, 1, 1, "5 1 2");
            wrongBy(b, 1, 2, 1, 1, "5 1 2");
            wrongBy(b, 1, 2, 1, 2, "5 1 2");
            wrongBy(b, 1, 0, 1, 1, "0 -1 -1");
            wrongBy(b, 1, 1, 1, 2, "0 -1 -1");
            wrongBy(b, 0, 1, 0, 0, "4 0 3");
        });
        sentence("CHECK 5: REP and DEF (or DEF of the innermost GROUP that both are in, if that is less)", () -> {
            Bench b = Bench.made("maybe g{maybe a;maybe b{maybe c;}}", "(- (-));-;(1 -);");
            wrongBy(b, 0, 0, 1, 2, "0 -1 -1");
            wrongBy(b, 0, 0, 1, 0, "5 1 0");
            wrongBy(b, 1, 0, 1, 1, "0 -1 -1");
            wrongBy(b, 1, 0, 1, 0, "5 1 0");
            wrongBy(b, 1, 1, 1, 1, "5 1 1");
            wrongBy(b, 1, 2, 1, 3, "0 -1 -1");
        });
        sentence("CHECK 5: 0 without any GROUP", () -> {
            Bench b = Bench.made("maybe a;maybe b;many c;", "1 - [];- 2 [3];");
            wrongBy(b, 0, 0, 1, 0, "0 -1 -1");
            wrongBy(b, 1, 0, 1, 1, "0 -1 -1");
            wrongBy(b, 2, 0, 1, 1, "0 -1 -1");
        });
        sentence("CHECK 5: or has none; or, if the other one has more, how many ENTRIES this LEAF has", () -> {
            Bench b = Bench.made("many h{one a;many b;}", "[(1 [2]) (3 [4 5])];");
            same("levels", b.column(1), "02:2 12:4 22:5");
            wrongBy(b, 1, 2, 0, 1, "5 1 2");
            wrongBy(b, 1, 1, 0, 2, "5 1 3");
            Bench c = Bench.made("many h{many b;one a;}", "[([2] 1) ([4 5] 3)];");
            wrongBy(c, 0, 2, 0, 1, "5 1 2");
            wrongBy(c, 0, 1, 0, 2, "5 1 1");
            Bench undone = Bench.made("many h{one a;many b;}", "[(1 [2]) (3 [4])];");
            undone.undo();
            undone.add("[(1 [2 3])];");
            wrongBy(undone, 1, 1, 0, 1, "5 1 1");
            Bench all = Bench.made("many h{many b;many c;}", "[([" + "1 ".repeat(120) + "] [1 2])];");
            wrongBy(all, 1, 1, 0, 1, "5 1 1");
            wrongBy(all, 0, 119, 0, 1, "5 1 2");
            Bench two = Bench.made("many h{one a;many b;}", "[" + "(1[2])".repeat(100) + "];", "[" + "(1[])".repeat(20) + "];");
            wrongBy(two, 1, 99, 0, 2, "5 1 100");
            wrongBy(two, 0, 119, 1, 0, "3 0 119");
        });
        sentence("CHECK 5: of ENTRIES whose REP is LEVEL of both or less", () -> {
            Bench b = Bench.made("many h{many b;many c;}", "[([1 2] [3 4]) ([5] [])];");
            wrongBy(b, 0, 1, 0, 1, "5 1 3");
            wrongBy(b, 1, 1, 0, 1, "5 1 2");
            wrongBy(b, 1, 2, 0, 2, "3 1 2");
            Bench d = Bench.made("one h{many b;many c;}", "([1 2] [3 4]);");
            wrongBy(d, 0, 1, 1, 0, "3 0 1");
            due("another number of ITEMS of each", Bench.made("one h{many b;many c;}", "([1 2 3] []);").count(9), 0);
        });
        sentence("CHECK 5 with the LEAF ahead (alone)", () -> {
            Bench b = Bench.made("many g{one a;}one n;many h{one b;one c;}", "[(1)(2)]3[(4 5)];[]6[];");
            same("nothing", b.check(), "0 -1 -1");
            wrongBy(b, 2, 1, 1, 1, "5 3 1");
            wrongBy(b, 0, 2, 1, 1, "0 -1 -1");
        });
        sentence("as long as anything is wrong, nothing is TOLD, SEEN, WALKED on (ADDED)", () -> {
            Bench b = Bench.busy();
            b.damage(3, 2, 1, 1);
            due("length", b.length(0, 15), NONE);
            missing("sign", () -> b.sign(0, 15, 0));
            due("reads", b.reads(0, 15), NONE);
            due("seen", b.seen(0), NONE);
            missing("seenSign", () -> b.seenSign(0, 0));
            due("add", b.add("[] 1;"), NONE);
            b.undo();
            due("length", b.length(0, 15), 25);
            due("seen", b.seen(0), 27);
        });
    }

    private static void harmless() {
        sentence("HARMLESS: how many; the first", () -> {
            Object[][] due = {{"one a;", "1;", 0, NONE}, {"maybe a;", "1;", 1, 10}, {"maybe a;", "-;", 1, 11},
                {"maybe a;", "-;1;", 2, 11}, {"maybe a{maybe b;}", "(-);", 2, 10}, {"maybe a{maybe b;}", "-;", 2, 11},
                {"many a;", "[1 2];", 0, NONE}, {"many a;", "[1];", 1, 10}, {"many a{many b;}", "[([1 2])];", 1, 21},
                {"many a{many b;}", "[([1]) ([2])];", 3, 11}, {"one c;maybe a;", "1 2;", 1, 10010},
                {"many a{one b;}", "[];", 1, 11}, {"many a{one b;one c;}", "[];", 0, NONE},
                {"many a;", "[1];[2];", 2, 10}, {"many a;", "[1 2];[3];", 1, 50}, {"many a{many b;}", "[([]) ([1])];", 2, 12},
                {"many a{many b;}", "[([1]) ([])];", 2, 11}, {"many a{many b;}one c;", "[([1 2])]5;", 1, 21},
                {"one c;many a{many b;}", "5[([1 2])];", 1, 10021}, {"one c;many a{many b;}one d;", "5[([1 2])]6;", 1, 10021},
                {"many a{one c;many b;}", "[(5 [1 2])];", 0, NONE}, {"many a{many b;one c;}", "[([1 2] 5)];", 0, NONE},
                {"one c;maybe g{maybe b;}", "5 (1);", 2, 10010}, {"maybe g{maybe b;}one c;", "(1) 5;", 2, 10},
                {"maybe g{maybe b;maybe c;}", "(1 2);", 2, 11}, {"maybe g{maybe b;maybe c;}", "(- -);", 2, 12},
                {"maybe g{maybe b;maybe c;}", "-;", 0, NONE}, {"maybe g{one h{maybe b;}maybe c;}", "((1) 2);", 2, 11}};
            for (Object[] d : due) {
                Bench b = Bench.made((String) d[0], (String) d[1]);
                due("HARMLESS of " + d[0] + d[1], b.count(12), (Integer) d[2]);
                due("the first of " + d[0] + d[1], b.count(13), (Integer) d[3]);
            }
        });
        sentence("HARMLESS: 10000 by the LEAF, 20 by the ENTRY, 10 for DEF, and the number", () -> {
            String ones = "one a;one b;one c;one d;one e;one f;one g;";
            String sevens = "1 2 3 4 5 6 7";
            Bench b = Bench.made(ones + "many h;", sevens + "[" + "1 ".repeat(119) + "];" + sevens + "[];");
            due("the last ENTRY of the last LEAF", b.count(13), 72391);
            due("it alone", b.count(12), 1);
            b.damage(7, 119, 1, 1);
            due("back again", b.count(13), 72390);
        });
        sentence("HARMLESS: without RECORDS, without FIELDS", () -> {
            due("no RECORDS", Bench.made(BASE).count(12), 0);
            due("no RECORDS", Bench.made(BASE).count(13), NONE);
            due("no FIELDS", new Bench().count(12), 0);
            due("no FIELDS", new Bench().count(13), NONE);
        });
        sentence("0 and NONE, if anything is wrong", () -> {
            Bench b = Bench.made("maybe a;", "1;2;");
            due("HARMLESS", b.count(12), 2);
            b.damage(0, 0, 1, 2);
            due("HARMLESS", b.count(12), 0);
            due("the first", b.count(13), NONE);
            due("not even what would mend it", b.count(9), 2);
            b.undo();
            due("the first", b.count(13), 10);
        });
        sentence("HARMLESS: by one of which in its place CHECK finds nothing", () -> {
            byDamage(base());
            byDamage(Bench.made("many h{many g{one a;maybe b;}}", "[([(1 2)]) ([])];"));
            byDamage(Bench.made("maybe g{many a;one b;}", "([1 2] 3);-;"));
            byDamage(Bench.made("many h{many a;many b;}", "[([1 2] [3 4])];"));
        });
    }

    /** Each other number is tried as damage, and undone. */
    private static void byDamage(Bench b) {
        int many = 0;
        int first = NONE;
        for (int leaf = 0; leaf < b.count(1); leaf++) {
            int field = b.leaf(leaf, 0);
            for (int e = 0; e < b.leaf(leaf, 1); e++) {
                for (int what = 0; what < 2; what++) {
                    for (int n = 0; n <= b.field(field, what == 0 ? 4 : 3); n++) {
                        if (b.damage(leaf, e, what, n) != NONE) {
                            if (b.count(9) == 0) {
                                many++;
                                first = first == NONE ? leaf * 10000 + e * 20 + what * 10 + n : first;
                            }
                            b.undo();
                        }
                    }
                }
            }
        }
        due("HARMLESS", b.count(12), many);
        due("the first", b.count(13), first);
    }

    // ---- promises 9 to 12 ----

    private static void fields() {
        sentence("field: NoSuchElementException: no such FIELD, what", () -> {
            Bench b = base();
            onlyUpTo(4, "field", i -> b.field(i, 0));
            onlyUpTo(6, "what", i -> b.field(4, i));
            missing("both", () -> b.field(5, 7));
            Bench sixteen = Bench.made("one a{one b{one c{one d;}}one e{one f{one g;}}one h{one i{one j;}}one k{one l;}one m{one n;}"
                    + "one p{one o;}}");
            onlyUpTo(15, "field of 16", i -> sixteen.field(i, 0));
        });
        sentence("field: KIND, LEAF (NONE), GROUP (NONE), DEF, REP, letters, FIELDS in it (not in these)", () -> {
            Bench b = Bench.made("many a{many b{many cdef{many d;}one e;}}one e;maybe ab{one f;}");
            int[][] due = {{2, NONE, NONE, 1, 1, 1, 1}, {2, NONE, 0, 2, 2, 1, 2}, {2, NONE, 1, 3, 3, 4, 1}, {2, 0, 2, 4, 4, 1, 0},
                {0, 1, 1, 2, 2, 1, 0}, {0, 2, NONE, 0, 0, 1, 0}, {1, NONE, NONE, 1, 0, 2, 1}, {0, 3, 6, 1, 0, 1, 0}};
            for (int field = 0; field < due.length; field++) {
                for (int what = 0; what < 7; what++) {
                    due("field(" + field + ", " + what + ")", b.field(field, what), due[field][what]);
                }
            }
        });
        sentence("name: NoSuchElementException: no such FIELD, letter", () -> {
            Bench b = Bench.made("one a;many bcde{one fg;}one z;");
            int[] letters = {1, 4, 2, 1};
            for (int field = 0; field < 4; field++) {
                int at = field;
                onlyUpTo(letters[at] - 1, "letter of " + at, i -> b.name(at, i));
            }
            onlyUpTo(3, "field", i -> b.name(i, 0));
            due("a", b.name(0, 0), 97);
            due("e", b.name(1, 3), 101);
            due("g", b.name(2, 1), 103);
            due("z", b.name(3, 0), 122);
        });
    }

    private static void leaves() {
        sentence("leaf: NoSuchElementException: no such LEAF (as everywhere), what", () -> {
            Bench b = base();
            onlyUpTo(3, "leaf", i -> b.leaf(i, 0));
            onlyUpTo(5, "what", i -> b.leaf(3, i));
            Bench eight = full();
            onlyUpTo(7, "leaf of 8", i -> eight.leaf(i, 0));
            Bench one = Bench.made("one a{one b;}");
            onlyUpTo(0, "leaf of 1", i -> one.leaf(i, 0));
        });
        sentence("no such LEAF (as everywhere)", () -> {
            Bench b = base();
            onlyUpTo(3, "entry", i -> b.entry(i, 0, 0));
            onlyUpTo(3, "skip", i -> b.skip(i, 0, 0));
            onlyUpTo(3, "fold", i -> b.fold(i, 0));
            onlyUpTo(3, "picked", i -> b.picked(i, 0, 0));
            onlyUpTo(3, "pages", i -> b.pages(i, 1));
            onlyUpTo(3, "piped", i -> b.piped(i, NONE));
            onlyUpTo(3, "set", i -> b.set(i, 0, 6));
            onlyUpTo(3, "damage", i -> b.damage(i, 0, 1, 0));
        });
        sentence("RUNS: how many rows of like numbers side by side REPS, DEFS of a LEAF are", () -> {
            Bench none = Bench.made("many a;");
            due("REPS of none", none.leaf(0, 2), 0);
            due("DEFS of none", none.leaf(0, 3), 0);
            Bench one = Bench.made("many a;", "[1];");
            due("REPS of one", one.leaf(0, 2), 1);
            due("DEFS of one", one.leaf(0, 3), 1);
            Bench b = Bench.made("many a;", "[1 2 3];[];[];[4];[5 6];");
            due("REPS 0 1 1 0 0 0 0 1", b.leaf(0, 2), 4);
            due("DEFS 1 1 1 0 0 1 1 1", b.leaf(0, 3), 3);
            b.damage(0, 7, 0, 9);
            due("as they are damaged", b.leaf(0, 2), 4);
            b.damage(0, 4, 1, 1);
            due("as they are damaged", b.leaf(0, 3), 3);
            b.damage(0, 3, 1, 1);
            due("as they are damaged", b.leaf(0, 3), 1);
            Bench all = Bench.made("many a;", "[" + "1 ".repeat(120) + "];");
            due("of 120", all.leaf(0, 2), 2);
            due("of 120", all.leaf(0, 3), 1);
        });
        sentence("BITS: the fewest binary digits in which REP, DEF of a LEAF can be told (0 for 0)", () -> {
            String[] schemas = {"one a;", "many a;", "many a{many b;}", "many a{many b{many c;}}", DEEP};
            int[] bits = {0, 1, 2, 2, 3};
            for (int i = 0; i < schemas.length; i++) {
                due("REP of " + schemas[i], Bench.made(schemas[i]).leaf(0, 4), bits[i]);
                due("DEF of " + schemas[i], Bench.made(schemas[i]).leaf(0, 5), bits[i]);
            }
            Bench b = Bench.made("maybe a{many b{maybe c;}}", "-;");
            due("REP 1", b.leaf(0, 4), 1);
            due("DEF 3", b.leaf(0, 5), 2);
            b.damage(0, 0, 1, 9);
            due("of the LEAF, not its ENTRIES", b.leaf(0, 5), 2);
        });
    }

    private static void entries() {
        sentence("entry: NoSuchElementException: no such LEAF, ENTRY (as everywhere), what", () -> {
            Bench b = base();
            int[] last = {2, 2, 3, 1};
            for (int leaf = 0; leaf < 4; leaf++) {
                int at = leaf;
                onlyUpTo(last[at], "entry of " + at, i -> b.entry(at, i, 0));
            }
            onlyUpTo(2, "what", i -> b.entry(0, 0, i));
            Bench none = Bench.made("one a;");
            onlyUpTo(-1, "entry of none", i -> none.entry(0, i, 0));
            Bench all = Bench.made("many a;", "[" + "1 ".repeat(120) + "];");
            onlyUpTo(119, "entry of 120", i -> all.entry(0, i, 2));
        });
        sentence("no such ENTRY (as everywhere)", () -> {
            Bench b = base();
            onlyUpTo(2, "set", i -> b.set(0, i, 8));
            onlyUpTo(2, "damage", i -> b.damage(0, i, 1, 5));
            Bench less = base();
            less.drop();
            onlyUpTo(0, "entry of one less", i -> less.entry(3, i, 0));
            onlyUpTo(0, "set of one less", i -> less.set(3, i, 8));
            onlyUpTo(0, "damage of one less", i -> less.damage(3, i, 0, 0));
        });
        sentence("a VALUE, if DEF is that of the LEAF; VALUE (NONE)", () -> {
            Bench b = Bench.made("maybe a{maybe b;}one c;", "(3) 4;(-) 0;- 999;");
            same("b", b.column(0), "02:3 01 00");
            same("c", b.column(1), "00:4 00:0 00:999");
            for (int def = 0; def <= 9; def++) {
                b.damage(0, 0, 1, def);
                due("by DEF " + def, b.entry(0, 0, 2), def == 2 ? 3 : NONE);
            }
        });
    }

    private static void walked() {
        sentence("MAYBE: if it isn't there, each LEAF in it (itself) gets an ENTRY of REP r, DEF d", () -> {
            Bench b = Bench.made("maybe a{maybe b{one c;maybe d;}one e;}", "-;(- 1);((2 -) 3);((4 5) 6);");
            same("c", b.column(0), "00 01 02:2 02:4");
            same("d", b.column(1), "00 01 02 03:5");
            same("e", b.column(2), "00 01:1 01:3 01:6");
        });
        sentence("MANY: the first ITEM with r, d and 1, each other one with REP of the FIELD, d and 1; without any ..", () -> {
            Bench b = Bench.made("many a{many b;many c{one d;}}", "[];[([] []) ([1 2] [(3) (4)])];[([5] [])];");
            same("b", b.column(0), "00 01 12:1 22:2 02:5");
            same("d", b.column(1), "00 01 12:3 22:4 01");
            Bench deep = Bench.made("many a{many b{many c{many d;}}}", "[([([([1 2]) ([])]) ([([3])])]) ([])];");
            same("all four", deep.column(0), "04:1 44:2 33 24:3 11");
        });
        sentence("ONE: its ITEM with r, d", () -> {
            Bench b = Bench.made("one a{one b{one c{one d;}}}many e{one f{one g;}}", "(((1)))[((2)) ((3))];");
            same("d", b.column(0), "00:1");
            same("g", b.column(1), "01:2 11:3");
        });
        sentence("each RECORD has an ENTRY of REP 0 in each LEAF", () -> {
            Bench b = Bench.made(DEEP, "[] 1;[([([([1 2])])])] 2;[([])] 3;");
            same("d", b.column(0), "00 04:1 44:2 01");
            same("e", b.column(1), "00:1 00:2 00:3");
        });
    }

    // ---- promise 13 ----

    private static void skips() {
        sentence("skip: NoSuchElementException: no such LEAF, RECORD (as everywhere), what", () -> {
            Bench b = base();
            onlyUpTo(1, "record", i -> b.skip(0, i, 0));
            onlyUpTo(1, "what", i -> b.skip(0, 0, i));
            Bench none = Bench.made("one a;");
            onlyUpTo(-1, "record of none", i -> none.skip(0, i, 0));
            Bench all = Bench.made("one a;", "7;".repeat(30));
            onlyUpTo(29, "record of 30", i -> all.skip(0, i, 0));
            due("the last", all.skip(0, 29, 0), 29);
            due("the last", all.skip(0, 29, 1), 1);
        });
        sentence("no such RECORD (as everywhere)", () -> {
            Bench b = Bench.busy();
            onlyUpTo(2, "length", i -> b.length(i, 1));
            onlyUpTo(2, "sign", i -> b.sign(i, 1, 0));
            onlyUpTo(2, "reads", i -> b.reads(i, 1));
            onlyUpTo(2, "seen", b::seen);
            onlyUpTo(2, "seenSign", i -> b.seenSign(i, 0));
            b.drop();
            onlyUpTo(1, "length of one less", i -> b.length(i, 1));
            onlyUpTo(1, "skip of one less", i -> b.skip(0, i, 0));
        });
        sentence("skip: its FIRST ENTRY, how many it has", () -> {
            Bench b = Bench.made("many a;", "[1];[1 2 3];[];[4 5];");
            int[][] due = {{0, 1}, {1, 3}, {4, 1}, {5, 2}};
            for (int r = 0; r < 4; r++) {
                due("FIRST of " + r, b.skip(0, r, 0), due[r][0]);
                due("how many of " + r, b.skip(0, r, 1), due[r][1]);
            }
            Bench all = Bench.made("many a;", "[" + "1 ".repeat(120) + "];");
            due("FIRST of one", all.skip(0, 0, 0), 0);
            due("how many of one", all.skip(0, 0, 1), 120);
        });
        sentence("skip: NONE: there are not so many of REP 0", () -> {
            Bench b = Bench.made("many a;", "[1];[2 3];");
            b.damage(0, 1, 0, 1);
            due("the first has all", b.skip(0, 0, 1), 3);
            due("FIRST of the second", b.skip(0, 1, 0), NONE);
            due("how many of it", b.skip(0, 1, 1), NONE);
            missing("a third", () -> b.skip(0, 2, 0));
            missing("another what", () -> b.skip(0, 1, 2));
            b.damage(0, 2, 0, 0);
            due("as many again", b.skip(0, 1, 0), 2);
            b.damage(0, 0, 0, 1);
            due("one less", b.skip(0, 1, 0), NONE);
            due("behind what stands ahead", b.skip(0, 0, 0), 2);
            b.damage(0, 2, 0, 2);
            due("none at all", b.skip(0, 0, 0), NONE);
            due("none at all", b.skip(0, 0, 1), NONE);
        });
        sentence("skip: more of REP 0 than RECORDS", () -> {
            Bench b = Bench.made("many a;", "[1];[2 3];");
            b.damage(0, 2, 0, 0);
            due("the second ends there", b.skip(0, 1, 1), 1);
            missing("a third is no RECORD", () -> b.skip(0, 2, 0));
        });
    }

    // ---- promise 14 ----

    private static void machine() {
        sentence("behind a LEAF of it comes the next one of the SET, or the end; behind the last one 0", () -> {
            Bench b = Bench.made("one a;maybe b;one c;");
            int[][] due = {{7, 0, 1}, {7, 1, 2}, {7, 2, NONE}, {5, 0, 2}, {5, 2, NONE}, {1, 0, NONE}, {6, 1, 2}, {4, 2, NONE}};
            for (int[] d : due) {
                due("next(" + d[0] + ", " + d[1] + ", 0)", b.next(d[0], d[1], 0), d[2]);
            }
        });
        sentence("if x is LEVEL or less, the one that comes behind it; else the first LEAF of the SET in the MANY FIELD", () -> {
            Bench b = Bench.made("many a{one p;many b{one q;many c{one r;many s;}one t;}}one u;");
            int all = 63;
            int[][] due = {{all, 0, 1, 1}, {all, 1, 2, 2}, {all, 1, 1, 2}, {all, 2, 3, 3}, {all, 3, 4, 3}, {all, 3, 3, 2},
                {all, 3, 2, 4}, {all, 3, 0, 4}, {all, 4, 2, 1}, {all, 4, 1, 0}, {all, 4, 0, 5}, {all, 5, 0, NONE},
                {8, 3, 4, 3}, {8, 3, 1, 3}, {8, 3, 0, NONE}, {9, 3, 1, 0}, {9, 3, 2, 3}, {9, 0, 1, 3}, {9, 0, 0, 3},
                {24, 3, 3, 3}, {24, 3, 2, 4}, {24, 4, 2, 3}, {24, 4, 1, 3}, {24, 4, 0, NONE}, {33, 0, 1, 0}, {33, 0, 0, 5}};
            for (int[] d : due) {
                due("next(" + d[0] + ", " + d[1] + ", " + d[2] + ")", b.next(d[0], d[1], d[2]), d[3]);
            }
        });
        sentence("LEVEL is REP of the innermost GROUP that both are in (0: in none)", () -> {
            Bench b = Bench.made("many a;many b;many g{many c;many d;}");
            due("in none", b.next(3, 0, 1), 0);
            due("in none", b.next(3, 0, 0), 1);
            due("in one", b.next(12, 2, 1), 3);
            due("in one", b.next(12, 2, 2), 2);
            due("in none", b.next(6, 1, 1), 1);
            due("behind the last", b.next(12, 3, 1), 2);
            due("behind the last", b.next(12, 3, 0), NONE);
            due("of eight LEAVES", full().next(255, 7, 1), 0);
        });
    }

    private static void machineRefuses() {
        sentence("next: NoSuchElementException: the LEAF isn't in the SET", () -> {
            Bench b = base();
            for (int leaf : new int[] {1, 2, 3, 4, 31, 32, 33, 64, -1, -32, LEAST, MOST}) {
                missing("leaf " + leaf, () -> b.next(1, leaf, 0));
            }
            missing("leaf 0", () -> b.next(14, 0, 0));
            missing("SET 0", () -> b.next(0, 0, 0));
            missing("no FIELDS", () -> new Bench().next(1, 1, 0));
            missing("of all bits", () -> b.next(-1, 32, 0));
            missing("of all bits", () -> b.next(-1, -1, 0));
        });
        sentence("next: IllegalArgumentException (behind that): LEAVES that there aren't", () -> {
            Bench b = base();
            due("all", b.next(15, 0, 0), 1);
            for (int set : new int[] {16, 17, 31, 256, 1 << 30, 1 << 31, -1, LEAST, MOST}) {
                int leaf = Integer.numberOfTrailingZeros(set);
                argument("SET " + set, () -> b.next(set, leaf, 0));
                missing("SET " + set + ", a LEAF that isn't in it", () -> b.next(set & ~8, 3, 0));
            }
            argument("no FIELDS", () -> new Bench().next(1, 0, 0));
            Bench eight = full();
            due("of eight", eight.next(255, 0, 0), 1);
            argument("of eight", () -> eight.next(256, 8, 0));
            argument("of eight", () -> eight.next(257, 0, 0));
        });
        sentence("next: IllegalArgumentException: level not 0 to REP of the LEAF", () -> {
            Bench b = base();
            int[] reps = {1, 1, 2, 0};
            for (int leaf = 0; leaf < 4; leaf++) {
                int at = leaf;
                taken("level 0", () -> b.next(15, at, 0));
                taken("level " + reps[at], () -> b.next(15, at, reps[at]));
                for (int level : new int[] {-1, reps[at] + 1, LEAST, MOST}) {
                    argument("leaf " + at + ", level " + level, () -> b.next(15, at, level));
                    missing("not in the SET", () -> b.next(15 & ~(1 << at), at, level));
                }
            }
            Bench deep = Bench.made(DEEP);
            due("level 4", deep.next(3, 0, 4), 0);
            argument("level 5", () -> deep.next(3, 0, 5));
        });
    }

    // ---- promises 15 to 17 ----

    private static void told() {
        sentence("TOLD: of those FIELDS alone that have a LEAF of the SET in them (or are one)", () -> {
            Bench b = Bench.made("maybe a{one b;many c{one d;maybe e;}}one f{one g;}", "(1 [(2 3) (4 -)]) (5);- (6);(7 []) (8);");
            String[][] due = {{"1", "(1);", "-;", "(7);"}, {"2", "([(2) (4)]);", "-;", "([]);"}, {"4", "([(3) (-)]);", "-;", "([]);"},
                {"8", "(5);", "(6);", "(8);"}, {"9", "(1) (5);", "- (6);", "(7) (8);"},
                {"6", "([(2 3) (4 -)]);", "-;", "([]);"}, {"15", "(1 [(2 3) (4 -)]) (5);", "- (6);", "(7 []) (8);"}};
            for (String[] d : due) {
                for (int r = 0; r < 3; r++) {
                    same("record " + r + ", SET " + d[0], b.told(r, Integer.parseInt(d[0])), d[r + 1]);
                }
            }
        });
        sentence("one blank between what is of two FIELDS, or two ITEMS, side by side, no other; NUMBERS without 0 ahead", () -> {
            Bench b = Bench.made("one a;many b{maybe c;}many d;", "\n000  [ (  -)(001) (010 )\n] [ 099 100 999 ] ;");
            same("told", b.told(0), "0 [(-) (1) (10)] [99 100 999];");
            due("length", b.length(0, 7), 30);
            due("the last byte", b.sign(0, 7, 29), ';');
            missing("one more", () -> b.sign(0, 7, 30));
        });
        sentence("TOLD: the first RECORD, the last one, one of all ENTRIES", () -> {
            Bench b = Bench.made("many a;", "[];[1 2];[3];");
            same("first", b.told(0), "[];");
            same("last", b.told(2), "[3];");
            Bench all = Bench.made("many a;", "[" + "7 ".repeat(120) + "];");
            due("length", all.length(0, 1), 242);
            due("the last byte", all.sign(0, 1, 241), ';');
            due("ahead of it", all.sign(0, 1, 240), ']');
            due("reads", all.reads(0, 1), 120);
            Bench deep = Bench.made(DEEP, "[([([([1 2]) ([])]) ([([3])])]) ([])] 8;[([])] 9;");
            same("deep", deep.told(0, 3), "[([([([1 2]) ([])]) ([([3])])]) ([])] 8;");
            same("deep, pruned", deep.told(0, 1), "[([([([1 2]) ([])]) ([([3])])]) ([])];");
            same("the other", deep.told(1, 3), "[([])] 9;");
        });
        sentence("TOLD by what is read: as it is damaged, as long as CHECK finds nothing", () -> {
            Bench b = Bench.made("maybe a{maybe b;}many c{many d;}", "(5) [([1 2])];");
            b.damage(0, 0, 1, 1);
            same("b isn't there", b.told(0), "(-) [([1 2])];");
            b.damage(0, 0, 1, 0);
            same("a isn't there", b.told(0), "- [([1 2])];");
            b.damage(1, 1, 0, 1);
            same("another GROUP", b.told(0), "- [([1]) ([2])];");
            b.set(1, 1, 345);
            same("another VALUE", b.told(0), "- [([1]) ([345])];");
        });
    }

    private static void toldRefuses() {
        sentence("length: IllegalArgumentException (behind NoSuchElementException): SET 0, LEAVES that there aren't", () -> {
            Bench b = base();
            taken("1", () -> b.length(1, 1));
            taken("15", () -> b.length(1, 15));
            for (int set : new int[] {0, 16, 17, 31, 256, -1, LEAST, MOST}) {
                argument("length, SET " + set, () -> b.length(1, set));
                missing("length, no RECORD, SET " + set, () -> b.length(2, set));
                missing("length, no RECORD, SET " + set, () -> b.length(-1, set));
                argument("reads, SET " + set, () -> b.reads(1, set));
                missing("reads, no RECORD, SET " + set, () -> b.reads(2, set));
                argument("sign, SET " + set, () -> b.sign(1, set, 0));
                argument("sign, no byte, SET " + set, () -> b.sign(1, set, -1));
                argument("sign, no byte, SET " + set, () -> b.sign(1, set, 99));
                missing("sign, no RECORD, SET " + set, () -> b.sign(2, set, 0));
            }
            Bench eight = full();
            taken("255", () -> eight.reads(0, 255));
            argument("256", () -> eight.reads(0, 256));
            argument("511", () -> eight.length(0, 511));
        });
        sentence("length, reads: NONE: anything is wrong (behind what is refused)", () -> {
            Bench b = base();
            b.damage(3, 0, 1, 1);
            due("length of another LEAF too", b.length(0, 1), NONE);
            due("reads of another LEAF too", b.reads(0, 1), NONE);
            argument("SET 0", () -> b.length(0, 0));
            argument("SET 16", () -> b.reads(0, 16));
            argument("SET 0 ahead of the byte", () -> b.sign(0, 0, 0));
            missing("no RECORD", () -> b.length(2, 1));
            missing("no RECORD", () -> b.reads(2, 1));
            due("STATUS 1", b.count(17), 0);
        });
        sentence("sign: the i-th byte of that. NoSuchElementException: also there is none", () -> {
            Bench b = base();
            onlyUpTo(24, "byte", i -> b.sign(0, 15, i));
            onlyUpTo(4, "byte of the second", i -> b.sign(1, 15, i));
            onlyUpTo(1, "byte of one LEAF", i -> b.sign(1, 8, i));
            b.damage(3, 0, 1, 1);
            onlyUpTo(-1, "byte, anything is wrong", i -> b.sign(0, 15, i));
        });
    }

    private static void reads() {
        sentence("To read a RECORD: begin at the first LEAF of the SET with its FIRST ENTRY there .. up to the end", () -> {
            Bench b = Bench.made("many g{one x;maybe y;many z;}one n;", "[(1 - []) (2 5 [7 8])] 9;[] 4;[(1 2 [3 4 5])] 6;");
            int[][] due = {{1, 2, 1, 1}, {2, 2, 1, 1}, {4, 3, 1, 3}, {8, 1, 1, 1}, {5, 5, 2, 4}, {12, 4, 2, 4}, {15, 8, 4, 6}};
            for (int[] d : due) {
                for (int r = 0; r < 3; r++) {
                    due("reads(" + r + ", " + d[0] + ")", b.reads(r, d[0]), d[r + 1]);
                }
            }
        });
        sentence("reads: all ENTRIES of a RECORD, as many as there can be", () -> {
            String row = "[" + "(--------)".repeat(60) + "];";
            Bench b = Bench.made("many g{maybe a;maybe b;maybe c;maybe d;maybe e;maybe f;maybe h;maybe i;}", row);
            due("60 of 8", b.reads(0, 255), 480);
            due("60 of 1", b.reads(0, 128), 60);
        });
    }

    // ---- promises 18, 19 ----

    private static void seen() {
        sentence("seen: NONE: anything is wrong, there is no VIEW", () -> {
            Bench b = base();
            due("no VIEW", b.seen(0), NONE);
            missing("no RECORD, no VIEW", () -> b.seen(2));
            b.view("one n;");
            due("seen", b.seen(0), 2);
            b.damage(0, 0, 0, 1);
            due("wrong", b.seen(0), NONE);
            missing("no RECORD", () -> b.seen(2));
            missing("no RECORD", () -> b.seen(-1));
            due("STATUS 1", b.count(17), 0);
            b.undo();
            due("seen", b.seen(0), 2);
            due("a FAULT", b.view("one q;"), 3);
            due("still seen", b.seen(0), 2);
        });
        sentence("seenSign: the i-th byte of that. NoSuchElementException: also there is none", () -> {
            Bench b = base();
            onlyUpTo(-1, "byte, no VIEW", i -> b.seenSign(0, i));
            b.view("maybe q;one n;");
            onlyUpTo(3, "byte", i -> b.seenSign(0, i));
            missing("no RECORD", () -> b.seenSign(2, 0));
            b.damage(0, 0, 0, 1);
            onlyUpTo(-1, "byte, anything is wrong", i -> b.seenSign(0, i));
        });
        sentence("SEEN: TOLD by its FIELDS, in its order: what is there as it is", () -> {
            Bench b = Bench.made("one a;maybe b{one c;many d;}many e;", "1 (2 [3 4]) [5 6];7 - [];8 (9 []) [10];");
            b.view("many e;maybe b{many d;maybe c;}maybe a;");
            same("0", b.seenText(0), "[5 6] ([3 4] 2) 1;");
            same("1", b.seenText(1), "[] - 7;");
            same("2", b.seenText(2), "[10] ([] 9) 8;");
        });
        sentence("none of a FIELD that is none of the SCHEMA ('-', or '[]'), nothing of FIELDS that it hasn't", () -> {
            Bench b = Bench.made("one a;many g{one b;}", "1 [(2) (3)];4 [];");
            b.view("maybe q;many r;maybe s{one a;}many t{one a;}");
            same("0", b.seenText(0), "- [] - [];");
            same("1", b.seenText(1), "- [] - [];");
            b.view("maybe a;");
            same("0", b.seenText(0), "1;");
        });
        sentence("By an ITEM of a GROUP that is there, FIELDS of which are none in the SCHEMA, these are so", () -> {
            Bench b = Bench.made("many g{one b;maybe h{one c;}}one k{one l;}", "[(1 -) (2 (3))] (4);[] (5);");
            b.view("many g{maybe h{many m;}maybe n;}maybe k{many o;}");
            same("0", b.seenText(0), "[(- -) (([]) -)] ([]);");
            same("1", b.seenText(1), "[] ([]);");
        });
        sentence("SEEN: of 16 FIELDS, 8 LEAVES", () -> {
            Bench b = full();
            b.view("many j;many k;many l;many m;many n;many o;many p;many q;");
            due("seen", b.seen(1), 24);
            b.view("many g{maybe i;}");
            due("60 ITEMS", b.seen(1), 60 * 4 + 2);
            due("the last byte", b.seenSign(1, 241), ';');
            missing("one more", () -> b.seenSign(1, 242));
        });
    }

    // ---- promises 20 to 23 ----

    private static void folds() {
        sentence("fold: NoSuchElementException: also how not 0 to 7", () -> {
            Bench b = base();
            onlyUpTo(7, "how", i -> b.fold(0, i));
            missing("no LEAF", () -> b.fold(4, 8));
        });
        sentence("FOLDS; NONE: none (of none)", () -> {
            int[] none = {0, 0, NONE, NONE, 0, 0, 0, 0};
            int[] unseen = {0, 0, NONE, NONE, 0, 2, 0, 0};
            Bench b = Bench.made("maybe a;");
            Bench c = Bench.made("maybe a;", "-;-;");
            Bench d = Bench.made("one a;", "5;6;");
            d.damage(0, 0, 1, 1);
            d.damage(0, 1, 1, 9);
            for (int how = 0; how < 8; how++) {
                due("no ENTRIES, how " + how, b.fold(0, how), none[how]);
                due("no VALUES, how " + how, c.fold(0, how), unseen[how]);
                due("VALUES unseen, how " + how, d.fold(0, how), unseen[how]);
            }
        });
        sentence("FOLDS of one VALUE, of 0 and of 999", () -> {
            int[] zero = {1, 0, 0, 0, 1, 0, 0, 0};
            int[] most = {1, 999, 999, 999, 1, 0, 999, 999};
            Bench b = Bench.made("one a;", "0;");
            Bench c = Bench.made("one a;", "999;");
            for (int how = 0; how < 8; how++) {
                due("of 0, how " + how, b.fold(0, how), zero[how]);
                due("of 999, how " + how, c.fold(0, how), most[how]);
            }
        });
        sentence("2 the least, 3 the greatest, 4 how many unlike, 5 ENTRIES without a VALUE", () -> {
            Bench b = Bench.made("many a;", "[5 3 9];[];[3 3 5];[];[9];");
            int[] due = {7, 37, 3, 9, 3, 2};
            for (int how = 0; how < 6; how++) {
                due("how " + how, b.fold(0, how), due[how]);
            }
            Bench all = Bench.made("many a;", "[" + "999 ".repeat(119) + "];[0];");
            due("how many", all.fold(0, 0), 120);
            due("sum", all.fold(0, 1), 999 * 119);
            due("least", all.fold(0, 2), 0);
            due("greatest", all.fold(0, 3), 999);
            due("unlike", all.fold(0, 4), 2);
        });
        sentence("6 from 0 on, each time the VALUE less that, 7 each time that by 7 and the VALUE, MOD 1000", () -> {
            Bench b = Bench.made("many a;", "[9 3 999];[];[7];");
            due("7 - (999 - (3 - 9))", b.fold(0, 6), 7 - 1005);
            due("MOD 1000", b.fold(0, 7), ((9 * 7 + 3) * 7 + 999) % 1000 * 7 % 1000 + 7);
            due("-1 is no NONE", Bench.made("many a;", "[3 2];").fold(0, 6), -1);
            due("1000 is 0", Bench.made("many a;", "[100 300];").fold(0, 7), 0);
            due("999 is 999", Bench.made("many a;", "[100 299];").fold(0, 7), 999);
        });
        sentence("fold: also while anything is wrong", () -> {
            Bench b = base();
            b.damage(0, 0, 0, 1);
            due("sum", b.fold(0, 1), 3);
            b.damage(0, 1, 1, 0);
            due("of what is seen", b.fold(0, 1), 1);
        });
    }

    private static void picked() {
        sentence("picked: NoSuchElementException: also how not 0 to 3", () -> {
            Bench b = base();
            onlyUpTo(3, "how", i -> b.picked(0, i, 0));
            missing("no LEAF", () -> b.picked(4, 4, 0));
        });
        sentence("PICKED: the told one (how 0), less (1), more (2)", () -> {
            Bench b = Bench.made("many a;", "[0];[5];[999];[];[4 6];");
            int[][] due = {{-1, 0, 0, 23}, {0, 1, 0, 22}, {1, 0, 1, 22}, {4, 16, 1, 22}, {5, 2, 17, 20}, {6, 16, 19, 4}, {7, 0, 19, 4},
                {999, 4, 19, 0}, {1000, 0, 23, 0}, {LEAST, 0, 0, 23}, {MOST, 0, 23, 0}};
            for (int[] d : due) {
                for (int how = 0; how < 3; how++) {
                    due("picked(0, " + how + ", " + d[0] + ")", b.picked(0, how, d[0]), d[how + 1]);
                }
            }
        });
        sentence("PICKED: or in which it has none at all (3)", () -> {
            Bench b = Bench.made("many a{maybe b;}", "[];[(1)];[(-) (-)];[(-) (2)];");
            for (int value : new int[] {0, 1, -1, LEAST, MOST}) {
                due("by any value", b.picked(0, 3, value), 5);
            }
            due("no RECORDS", Bench.made("one a;").picked(0, 3, 0), 0);
            due("no RECORDS", Bench.made("one a;").picked(0, 1, 9), 0);
            due("30", Bench.made("maybe a;", "-;".repeat(30)).picked(0, 3, 0), (1 << 30) - 1);
            due("30", Bench.made("one a;", "7;".repeat(30)).picked(0, 0, 7), (1 << 30) - 1);
        });
        sentence("picked: (By FIRST ENTRIES; of RECORDS that have one.)", () -> {
            Bench b = Bench.made("many a;", "[1];[2];[3 4];");
            b.damage(0, 1, 0, 1);
            due("2 is of the first", b.picked(0, 0, 2), 1);
            due("3 is of the second", b.picked(0, 0, 3), 2);
            due("the third has no FIRST ENTRY", b.picked(0, 3, 0), 0);
            b.damage(0, 0, 0, 1);
            due("1 stands ahead of all", b.picked(0, 0, 1), 0);
            due("4 is of the first", b.picked(0, 0, 4), 1);
            b.damage(0, 0, 0, 0);
            b.damage(0, 1, 0, 0);
            b.damage(0, 3, 0, 0);
            due("4 is of no RECORD", b.picked(0, 0, 4), 0);
        });
    }

    private static void pages() {
        sentence("pages: IllegalArgumentException (behind NoSuchElementException): another size", () -> {
            Bench b = base();
            taken("1", () -> b.pages(0, 1));
            taken("120", () -> b.pages(0, 120));
            for (int size : new int[] {0, -1, 121, 122, LEAST, MOST}) {
                argument("size " + size, () -> b.pages(0, size));
                missing("no LEAF, size " + size, () -> b.pages(4, size));
                missing("no LEAF, size " + size, () -> b.pages(-1, size));
            }
        });
        sentence("PAGES: in the fewest pages, each of whole RECORDS that have that many ENTRIES together at most", () -> {
            Bench b = Bench.made("many a;", "[1 2];[];[3];[4 5];[6];");
            int[] due = {NONE, 4, 3, 2, 2, 2, 1, 1};
            for (int size = 1; size <= 8; size++) {
                due("size " + size, b.pages(0, size), due[size - 1]);
            }
            Bench all = Bench.made("many a;", "[" + "1 ".repeat(60) + "];[" + "1 ".repeat(60) + "];");
            due("119", all.pages(0, 119), 2);
            due("120", all.pages(0, 120), 1);
            due("60", all.pages(0, 60), 2);
        });
        sentence("PAGES: none, if one has more", () -> {
            Bench b = Bench.made("many a;", "[1];[2];[3 4 5];");
            due("2", b.pages(0, 2), NONE);
            due("3", b.pages(0, 3), 2);
            Bench one = Bench.made("many a;", "[" + "1 ".repeat(120) + "];");
            due("119", one.pages(0, 119), NONE);
            due("120", one.pages(0, 120), 1);
        });
        sentence("PAGES: of no RECORDS", () -> {
            due("1", Bench.made("many a;").pages(0, 1), 0);
            due("120", Bench.made("many a;").pages(0, 120), 0);
            due("30 of one", Bench.made("one a;", "1;".repeat(30)).pages(0, 1), 30);
        });
        sentence("PAGES: from each REP of 0 up to the next; what stands ahead of the first counts nowhere", () -> {
            Bench b = Bench.made("many a;", "[1 2 3];[4];");
            b.damage(0, 0, 0, 1);
            due("one of 1", b.pages(0, 1), 1);
            b.damage(0, 3, 0, 1);
            due("none at all", b.pages(0, 1), 0);
            b.damage(0, 2, 0, 0);
            due("one of 2", b.pages(0, 1), NONE);
            due("one of 2", b.pages(0, 2), 1);
            b.damage(0, 1, 0, 0);
            b.damage(0, 0, 0, 0);
            b.damage(0, 3, 0, 0);
            due("four of 1, more than RECORDS", b.pages(0, 1), 4);
        });
    }

    private static void piped() {
        sentence("piped: how many (i NONE), the i-th. NoSuchElementException: also there is none", () -> {
            Bench b = Bench.made("many a;one b;", "[5 3 8]1;[]2;");
            due("how many", b.piped(0, NONE), 3);
            due("the last", b.piped(0, 2), 8);
            for (int i : new int[] {3, 4, -2, LEAST, MOST}) {
                missing("i " + i, () -> b.piped(0, i));
            }
            b.pipe("more 4;");
            due("how many", b.piped(0, NONE), 2);
            due("the last", b.piped(0, 1), 8);
            missing("one more", () -> b.piped(0, 2));
            b.pipe("less 0;");
            due("none", b.piped(0, NONE), 0);
            missing("the first", () -> b.piped(0, 0));
            due("no RECORDS", Bench.made("one a;").piped(0, NONE), 0);
        });
        sentence("(Without a text: none.)", () -> {
            Bench b = Bench.made("many a;", "[" + "7 ".repeat(119) + "8];");
            due("all VALUES", b.piped(0, NONE), 120);
            due("the last", b.piped(0, 119), 8);
            missing("one more", () -> b.piped(0, 120));
            b.pipe("gap 118;");
            same("two of them", b.pipedValues(0), "7 8");
        });
        sentence("VALUES of a LEAF go through it: of ENTRIES that have one, also while anything is wrong", () -> {
            Bench b = Bench.made("maybe a;", "1;-;2;3;");
            b.pipe("gap 1;");
            same("gap over what has none", b.pipedValues(0), "1 3");
            b.damage(0, 0, 1, 9);
            same("one less", b.pipedValues(0), "2");
            b.damage(0, 0, 0, 9);
            same("wrong", b.pipedValues(0), "2");
        });
    }

    private static void through(Bench b, String pipe, String due) {
        due("pipe " + pipe, b.pipe(pipe), 0);
        same(pipe, b.pipedValues(0), due);
    }

    private static void steps() {
        sentence("'less', 'more' n: only those that are below, above n go on", () -> {
            Bench b = Bench.made("many a;", "[0 4 5 6 999];");
            through(b, "less 5;", "0 4");
            through(b, "more 5;", "6 999");
            through(b, "less 0;", "");
            through(b, "more 0;", "4 5 6 999");
            through(b, "less 999;", "0 4 5 6");
            through(b, "more 999;", "");
            through(b, "more 4;less 6;", "5");
        });
        sentence("'first' n: only the first n that come to it", () -> {
            Bench b = Bench.made("many a;", "[1 2 3 4 5];");
            through(b, "first 0;", "");
            through(b, "first 1;", "1");
            through(b, "first 4;", "1 2 3 4");
            through(b, "first 5;", "1 2 3 4 5");
            through(b, "first 999;", "1 2 3 4 5");
            through(b, "more 2;first 2;", "3 4");
            through(b, "first 4;more 2;", "3 4");
            through(b, "first 3;first 2;", "1 2");
        });
        sentence("'gap' n: only those that come to it n ones apart", () -> {
            Bench b = Bench.made("many a;", "[1 2 3 4 5 6 7];");
            through(b, "gap 0;", "1 2 3 4 5 6 7");
            through(b, "gap 1;", "1 3 5 7");
            through(b, "gap 2;", "1 4 7");
            through(b, "gap 5;", "1 7");
            through(b, "gap 6;", "1");
            through(b, "gap 999;", "1");
            through(b, "gap 1;gap 1;", "1 5");
            through(b, "more 1;gap 2;", "2 5");
            through(b, "gap 2;more 1;", "4 7");
        });
        sentence("'plus', 'times' n (ints that wrap), 'mod' n: the rest by / (of the sign of the number)", () -> {
            Bench b = Bench.made("many a;", "[0 1 999];");
            through(b, "plus 0;times 1;mod 999;", "0 1 0");
            through(b, "plus 999;", "999 1000 1998");
            through(b, "times 0;", "0 0 0");
            through(b, "mod 1;", "0 0 0");
            through(b, "mod 2;", "0 1 1");
            int most = 999 * 999 * 999;
            through(b, "times 999;times 999;times 999;", "0 " + most + " " + most * 999);
            through(b, "times 999;times 999;times 999;mod 10;", "0 " + most % 10 + " " + most * 999 % 10);
            due("below 0", most * 999 % 10 < 0 ? 1 : 0, 1);
            through(b, "times 999;times 999;times 999;less 0;", String.valueOf(most * 999));
            through(b, "plus 1;times 3;mod 7;", "3 6 4");
        });
        sentence("STEP by STEP, in order: all eight", () -> {
            Bench b = Bench.made("many a;", "[1 2 3 4 5 6 7 8 9];");
            through(b, "plus 1;times 2;mod 15;less 14;more 1;gap 1;first 2;plus 990;", "994 998");
            through(b, "times 2;plus 1;", "3 5 7 9 11 13 15 17 19");
        });
    }

    // ---- all of them ----

    private static void askingChangesNothing() {
        sentence("calls that ask leave all as it is", () -> {
            nothingChanges("asking", Bench::busyWithTape, b -> {
                for (int what = 0; what <= 17; what++) {
                    b.count(what);
                }
                for (int leaf = 0; leaf < 4; leaf++) {
                    b.leaf(leaf, 2);
                    b.skip(leaf, 1, 1);
                    b.fold(leaf, 4);
                    b.picked(leaf, 1, 5);
                    b.pages(leaf, 3);
                    b.piped(leaf, NONE);
                }
                b.next(15, 2, 1);
                b.reads(0, 7);
                b.length(1, 3);
                b.sign(0, 15, 9);
                b.seen(2);
                b.seenSign(1, 0);
                b.years(7, 10, 1);
            });
        });
        sentence("calls that throw leave all as it is", () -> {
            nothingChanges("throwing", Bench::busyWithTape, b -> {
                missing("count", () -> b.count(18));
                missing("field", () -> b.field(5, 0));
                missing("name", () -> b.name(0, 1));
                missing("leaf", () -> b.leaf(4, 0));
                missing("entry", () -> b.entry(0, 4, 0));
                missing("skip", () -> b.skip(0, 3, 0));
                missing("next", () -> b.next(1, 1, 0));
                argument("next", () -> b.next(16, 4, 0));
                argument("length", () -> b.length(0, 0));
                missing("sign", () -> b.sign(0, 15, 25));
                argument("reads", () -> b.reads(0, 16));
                missing("seen", () -> b.seen(3));
                missing("seenSign", () -> b.seenSign(0, 99));
                missing("fold", () -> b.fold(0, 8));
                missing("picked", () -> b.picked(0, 4, 0));
                argument("pages", () -> b.pages(0, 121));
                missing("piped", () -> b.piped(0, 9));
                missing("set", () -> b.set(0, 4, 5));
                missing("damage", () -> b.damage(0, 0, 2, 5));
                missing("years", () -> b.years(1, 1, 3));
                argument("years", () -> b.years(1, 11, 0));
            });
        });
    }
}
