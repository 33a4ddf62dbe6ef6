/** Sentence by sentence, what bounds the document sets for the tape and for texts: promises 1 to 7, parts 1 to 3. */
public final class EdgeTextTests extends Edges {
    private static final String BASE = "many g{one x;maybe y;many z;}one n;";
    private static final String[] TEXTS = {"schema", "add", "view", "pipe"};
    /** Fourteen fields, five of them leaves, one group open. */
    private static final String FOURTEEN =
            "one a{one b{one c{one d;}}one e{one f{one g;}}one h{one i{one j;}}one k{one l;}one m{one n;}";
    private static final String EIGHT_LEAVES = "one a;one b;one c;one d;one e;one f;one g;one h;";

    public static void main(String[] args) {
        newObject();
        tape();
        lengths();
        tokens();
        schemas();
        schemaFaults();
        schemaAnew();
        records();
        recordsTooMany();
        entriesTooMany();
        adds();
        viewKinds();
        viewFaults();
        views();
        pipeTexts();
        pipes();
        faults();
        end("EdgeTextTests");
    }

    private static int call(String how, Bench b, int n) {
        switch (how) {
            case "schema": return b.schema(n);
            case "add": return b.add(n);
            case "view": return b.view(n);
            default: return b.pipe(n);
        }
    }

    private static String blanks(int n) {
        return " ".repeat(n);
    }

    // ---- promise 1 ----

    private static void newObject() {
        sentence("LeafStripes(): No FIELDS.", () -> {
            Bench b = new Bench();
            same("all", b.all(), "counts 0 0 0 0 0 0 0 0 0 0 -1 -1 0 -1 0\nSTATUS 0 0, tape 0, fault -1");
            missing("field", () -> b.field(0, 0));
            missing("name", () -> b.name(0, 0));
            missing("leaf", () -> b.leaf(0, 0));
            missing("entry", () -> b.entry(0, 0, 0));
            missing("skip", () -> b.skip(0, 0, 0));
            missing("length", () -> b.length(0, 1));
            missing("sign", () -> b.sign(0, 1, 0));
            missing("reads", () -> b.reads(0, 1));
            missing("seen", () -> b.seen(0));
            missing("seenSign", () -> b.seenSign(0, 0));
            missing("fold", () -> b.fold(0, 0));
            missing("picked", () -> b.picked(0, 0, 0));
            missing("pages", () -> b.pages(0, 1));
            missing("piped", () -> b.piped(0, NONE));
            missing("set", () -> b.set(0, 0, 0));
            missing("damage", () -> b.damage(0, 0, 0, 0));
        });
        sentence("LeafStripes(): an object of its own", () -> {
            Bench b = Bench.busy();
            due("another one's FIELDS", new Bench().count(0), 0);
            due("its own", b.count(0), 5);
        });
    }

    // ---- promise 2 ----

    private static void tape() {
        sentence("Twenty bytes come behind the tape, of each number the highest first", () -> {
            Bench b = new Bench();
            due("feed", b.feed(0x6f6e6520, 0x61623b6f, 0x6e652062, 0x7b6f6e65, 0x20633b7d), 20);
            due("'one ab;one b{one c;}'", b.schema(20), 0);
            due("FIELDS", b.count(0), 3);
            same("its name", b.fieldName(0), "ab");
            Bench high = new Bench();
            high.feed(0x6f6e6520, 0x61ff3b20, -1, LEAST, MOST);
            due("a byte of 255", high.schema(20), 1);
            due("its place", high.fault(), 5);
        });
        sentence("Twenty bytes come behind the tape", () -> {
            Bench b = new Bench();
            b.tape("one a;one b;one c;on");
            due("the second twenty", b.tape("e d;"), 40);
            due("across both", b.schema(24), 0);
            due("FIELDS", b.count(0), 4);
        });
        sentence("feed: how many it has", () -> {
            Bench b = new Bench();
            for (int bytes = 20; bytes <= 700; bytes += 20) {
                due("feed", b.feed(1, 2, 3, 4, 5), bytes);
                due("count(15)", b.count(15), bytes);
            }
        });
        sentence("NONE, and none come, if it would have more than 700", () -> {
            Bench b = new Bench();
            due("700", b.tape("one a;" + blanks(688) + "one b;"), 700);
            for (int i = 0; i < 3; i++) {
                due("more", b.tape("xxxxxxxxxxxxxxxxxxxx"), NONE);
                due("bytes", b.count(15), 700);
            }
            due("STATUS 1", b.count(17), 0);
            due("what was there", b.schema(700), 0);
            due("FIELDS", b.count(0), 2);
            due("empty again", b.tape("one c;"), 20);
            due("and read anew", b.schema(6), 0);
            same("its name", b.fieldName(0), "c");
        });
        sentence("feed changes the tape alone", () -> {
            Bench fed = Bench.busy();
            fed.tape("one a;");
            same("all else", fed.kept(), Bench.busy().kept());
            due("fault", fed.fault(), 5);
        });
    }

    // ---- promise 3 to 6: n ----

    private static void lengths() {
        for (String how : TEXTS) {
            sentence(how + ": IllegalArgumentException: the tape has not so many, n below 0", () -> {
                Bench b = Bench.made("one a;");
                argument("1 of none", () -> call(how, b, 1));
                b.tape("zzzzzzzzzzzzzzzzzzzz");
                for (int n : new int[] {21, 22, 40, 700, 701, MOST, -1, -2, LEAST}) {
                    argument("n " + n, () -> call(how, b, n));
                }
                due("bytes", b.count(15), 20);
                due("all twenty", call(how, b, 20), 1);
                argument("twenty again", () -> call(how, b, 20));
                due("none of none is a text", call(how, b, 0), how.equals("pipe") ? 0 : 1);
            });
            sentence(how + ": nothing changes, as by all of these", () -> {
                nothingChanges("too many", Bench::busyWithTape, b -> argument("21", () -> call(how, b, 21)));
                nothingChanges("below 0", Bench::busyWithTape, b -> argument("-1", () -> call(how, b, -1)));
                nothingChanges("no tape", Bench::busy, b -> argument("1", () -> call(how, b, 1)));
                nothingChanges("no FIELDS", Bench::new, b -> argument("1", () -> call(how, b, 1)));
            });
            sentence(how + ": the tape's first n bytes (it is empty then, as by all of these)", () -> {
                Bench b = Bench.made("maybe ab;");
                b.tape(how.equals("add") ? "1;x;" : how.equals("pipe") ? "gap 1;x" : "maybe ab;x");
                int n = how.equals("add") ? 2 : how.equals("pipe") ? 6 : 9;
                due("the first n alone", call(how, b, n), 0);
                due("empty", b.count(15), 0);
                b.tape("?");
                b.tape("?");
                due("a FAULT", call(how, b, 30), 1);
                due("empty by a FAULT too", b.count(15), 0);
                due("feed from 0 on", b.tape("?"), 20);
            });
        }
    }

    // ---- tokens ----

    private static boolean isBlank(int b) {
        return b == 32 || b == 10;
    }

    private static void tokens() {
        sentence("words (a .. z, the longest row): the first letter", () -> {
            for (int b = 0; b < 256; b++) {
                schemaIs("one " + (char) b + ";", b >= 97 && b <= 122 ? "ok" : isBlank(b) ? "1@5" : "1@4");
            }
        });
        sentence("words (a .. z, the longest row): the next one", () -> {
            for (int b = 0; b < 256; b++) {
                boolean fits = b >= 97 && b <= 122 || isBlank(b);
                schemaIs("one a" + (char) b + ";", fits ? "ok" : b == ';' || b == '{' ? "1@6" : "1@5");
            }
            schemaIs("onea;", "1@0");
            schemaIs("oneone a;", "1@0");
            schemaIs("one1;", "1@3");
        });
        sentence("NUMBERS (1 digit or more)", () -> {
            for (int b = 0; b < 256; b++) {
                boolean isDigit = b >= 48 && b <= 57;
                addIs("one a;", (char) b + ";", isDigit ? "ok" : isBlank(b) ? "1@1" : "1@0");
                addIs("one a;", "1" + (char) b + ";", isDigit || isBlank(b) ? "ok" : b == ';' ? "1@2" : "1@1");
            }
            addIs("one a;one b;", "12;", "1@2");
            addIs("one a;one b;", "1 2;", "ok");
            addIs("one a;", "1 2;", "1@2");
        });
        sentence("signs ; { } ( ) [ ] -", () -> {
            for (String sign : new String[] {";", "{", "}", "(", ")", "[", "]", "-"}) {
                // two of them are two tokens, so the second can't stand there
                boolean begins = sign.equals("-") || sign.equals("(") || sign.equals("[");
                String schema = sign.equals("(") ? "one a{one b;}" : sign.equals("[") ? "many a;" : "maybe a;";
                addIs(schema, sign + sign + ";", begins ? "1@1" : "1@0");
            }
        });
        sentence("blanks (32, 10) between them count for nothing", () -> {
            schemaIs("\n many \n g\n{\none x ; maybe y; many\nz;}one n;\n ", "ok");
            Bench b = Bench.made(BASE);
            same("without any", read("add", b, "[(1-[])(2 5[7 8])]9;[]4;"), "ok");
            same("with many", read("add", b, "\n[ ( 1 - [ ] )\n\n(  2\n5 [ 7 8 ] ) ] 9 ;  [ ] 4 ; \n"), "ok");
            same("the same", b.told(0), b.told(2));
            same("the same", b.told(1), b.told(3));
            same("told", b.told(0), "[(1 - []) (2 5 [7 8])] 9;");
            same("a view", read("view", b, " \nmany g\n{ one x\n; }one\nn\n; "), "ok");
            same("a pipe", read("pipe", b, "plus1;times \n 2\n; "), "ok");
            same("through it", b.pipedValues(3), "20 10 20 10");
            schemaIs("o ne a;", "1@0");
            pipeIs("pl us 1;", "1@0");
        });
    }

    // ---- schema ----

    /** Each first part of the text, alone on the tape and with the rest behind it. */
    private static void prefixes(String how, String schema, String text, int... places) {
        for (int n = 0; n <= text.length(); n++) {
            String due = places[n] == NONE ? "ok" : "1@" + places[n];
            Bench b = schema.isEmpty() ? new Bench() : Bench.made(schema);
            same(how + " '" + text.substring(0, n) + "'", read(how, b, text.substring(0, n)), due);
            Bench longer = schema.isEmpty() ? new Bench() : Bench.made(schema);
            longer.tape(text + "aaaa0000");
            int answer = call(how, longer, n);
            int place = longer.fault();
            same(how + " '" + text + "', " + n, answer == 0 && place == NONE ? "ok" : answer + "@" + place, due);
        }
    }

    private static void schemas() {
        sentence("1 (the text's length where it ends too soon)", () -> {
            int[] places = {0, 0, 0, 0, 4, 5, 6, 7, 7, 7, 10, 11, 12, 13, 13, 13, 13, 13, 18, 19, 20, 21, NONE, 22, 22, 25,
                26, 27, NONE};
            String text = "many g{one x;maybe y;}one n;";
            prefixes("schema", "", text, places);
            prefixes("view", text, text, places);
            prefixes("add", text, "[(1 -)]2;", 0, 1, 2, 3, 4, 5, 6, 7, 8, NONE);
            prefixes("pipe", "", "plus 1;mod 2;", NONE, 0, 0, 0, 4, 5, 6, NONE, 7, 7, 10, 11, 12, NONE);
            schemaIs("one a \n ", "1@8");
            addIs(text, "[(1 -)] \n", "1@9");
            pipeIs("plus 1 ", "1@7");
            schemaIs("one a" + blanks(695), "1@700");
            schemaIs("one" + blanks(696) + "a", "1@700");
            addIs("one a;", blanks(699) + "1", "1@700");
            pipeIs(blanks(694) + "plus 1", "1@700");
        });
        sentence("a text of all 700 bytes", () -> {
            schemaIs(blanks(694) + "one a;", "ok");
            addIs("one a;", "1;" + blanks(696) + "2;", "ok");
            viewIs("one a;", "one a" + blanks(694) + ";", "ok");
            pipeIs("gap 1;" + blanks(687) + "mod 12;", "ok");
            pipeIs("gap 1;" + blanks(687) + "mod 12!", "1@699");
        });
        sentence("SCHEMA: FIELD FIELD*", () -> {
            schemaIs("", "1@0");
            schemaIs("   ", "1@3");
            schemaIs("\n", "1@1");
            schemaIs(";", "1@0");
            schemaIs("one a;", "ok");
            schemaIs("one a;;", "1@6");
            schemaIs("one a;b;", "1@6");
        });
        sentence("FIELD: ('one' | 'maybe' | 'many') NAME (';' | '{' FIELD FIELD* '}')", () -> {
            for (String word : new String[] {"o", "on", "ones", "ome", "may", "mayb", "maybf", "maybee", "man", "manx", "manyy",
                "xany", "xaybe", "xne", "plus", "none"}) {
                schemaIs(word + " a;", "1@0");
            }
            for (String sign : new String[] {";", "{", "}", "(", ")", "[", "]", "-", "1"}) {
                schemaIs("one " + sign, "1@4");
                schemaIs(sign, "1@0");
            }
            for (String sign : new String[] {"}", "(", ")", "[", "]", "-", "1", " b"}) {
                schemaIs("many ab" + sign, sign.equals(" b") ? "1@8" : "1@7");
            }
            schemaIs("one a{}", "1@6");
            schemaIs("one a{;}", "1@6");
            schemaIs("one a{{one b;}}", "1@6");
            schemaIs("one a{one b;}", "ok");
            schemaIs("one a{one b;};", "1@13");
            schemaIs("one a{one b;}}", "1@13");
            schemaIs("one a;}", "1@6");
            schemaIs("}", "1@0");
        });
        sentence("NAME: any word of at most 4 letters", () -> {
            schemaIs("one a;one ab;one abc;one abcd;", "ok");
            schemaIs("one abcde;", "2@4");
            schemaIs("one " + "a".repeat(400) + ";", "2@4");
            schemaIs("one one;one many;one zzzz;", "ok");
            schemaIs("one maybe;", "2@4");
            schemaIs("many a{one bcdef;}", "2@11");
            Bench b = Bench.made("one azby;");
            same("all four", b.fieldName(0), "azby");
            due("letters", b.field(0, 5), 4);
        });
    }

    private static void schemaFaults() {
        sentence("FAULTS, the first along the text", () -> {
            schemaIs("one abcde;x", "2@4");
            schemaIs("x one abcde;", "1@0");
            schemaIs("one a;one a;one bcdef;", "4@10");
            schemaIs("one a;one bcdef;one a;", "2@10");
            schemaIs(EIGHT_LEAVES + "one i;?", "2@53");
        });
        sentence("of one TOKEN the least", () -> {
            schemaIs(FOURTEEN + "one p{one o;}}zne q;", "1@106");
            schemaIs(FOURTEEN + "one p{one o;}}one q;", "2@106");
            viewIs("one i{one j;}", EIGHT_LEAVES.replace("one", "many") + "one i;", "2@61");
            viewIs("one i{one j;}", EIGHT_LEAVES.substring(6).replace("one", "many") + "one i;", "3@54");
            viewIs("one a{one b{one c{one d;}}}", "one a{one b{one c{one d{one e;}}}}", "2@23");
            viewIs("one a;", "maybe b;one b;", "3@12");
            viewIs("one a;", "one a;many a;", "3@11");
            viewIs("one a;", "one a;one a;", "4@10");
        });
        sentence("2: the first TOKEN of the 17th FIELD", () -> {
            schemaIs(FOURTEEN + "one p{one o;}}", "ok");
            schemaIs(FOURTEEN + "one p{one o;many q;}}", "2@104");
            schemaIs(FOURTEEN + "one p{one o;}maybe q{one r;}}", "2@105");
            schemaIs(FOURTEEN + "one p;one o{}}", "1@104");
            schemaIs(FOURTEEN + "one p;one o{one q;}}", "2@104");
            schemaIs(FOURTEEN + "one p{one o;}}}", "1@106");
            Bench b = Bench.made(FOURTEEN + "one p{one o;}}");
            due("16 FIELDS", b.count(0), 16);
            due("6 LEAVES", b.count(1), 6);
            same("the last one's name", b.fieldName(15), "o");
        });
        sentence("2: ';' of the 9th LEAF", () -> {
            schemaIs(EIGHT_LEAVES, "ok");
            schemaIs(EIGHT_LEAVES + "one i ;", "2@54");
            schemaIs(EIGHT_LEAVES + "one i{one j;}", "2@59");
            schemaIs(EIGHT_LEAVES + "one i(", "1@53");
            schemaIs(EIGHT_LEAVES + "one a;", "4@52");
            schemaIs("one z{" + EIGHT_LEAVES + "}", "ok");
            schemaIs("one z{" + EIGHT_LEAVES + "}one y;", "2@60");
            due("8 LEAVES", Bench.made("one z{" + EIGHT_LEAVES + "}").count(1), 8);
        });
        sentence("2: '{' within 3 others", () -> {
            schemaIs("one a{one b{one c{one d;}}}", "ok");
            schemaIs("one a{one b{one c{one d{one e;}}}}", "2@23");
            schemaIs("one a{one b{one c{one d{", "2@23");
            schemaIs("one a{one b{one c{one d;}one e{one f;}}one g{one h{one i;}}}one j{one k{one l{one m;}}}", "ok");
            schemaIs("one a{one b{one c{one d;}one e{one f{", "2@36");
            schemaIs("one a{one b{one c;}}one d{one e{one f{one g{one h;}}}}", "2@43");
        });
        sentence("4 a NAME that a FIELD of the same GROUP (or of none) has", () -> {
            schemaIs("one a;maybe a;", "4@12");
            schemaIs("one a;one b;one a;", "4@16");
            schemaIs("one a;one b;one b;", "4@16");
            schemaIs("one a{one b;}one a;", "4@17");
            schemaIs("one a{one b;one c;many b;}", "4@23");
            schemaIs("one a{one b{one c;}one b;}", "4@23");
            schemaIs("one a{one a;}", "ok");
            schemaIs("one a{one a{one a{one a;}}}", "ok");
            schemaIs("one a{one b;}one b{one a;}", "ok");
            schemaIs("one a{one b;}one c{one b;}", "ok");
            schemaIs("one ab;one a;one abc;one abd;one bb;", "ok");
            schemaIs("one abcd;one abce;one abcd;", "4@22");
        });
    }

    private static void schemaAnew() {
        sentence("schema: 0, or the FAULT (all stays, but STATUS)", () -> {
            String[] faulty = {"", "one a", "one abcde;", "one a;one a;", FOURTEEN + "one p{one o;}}one q;"};
            int[] faults = {1, 1, 2, 4, 2};
            for (int i = 0; i < faulty.length; i++) {
                String text = faulty[i];
                int fault = faults[i];
                allElseStays("schema '" + text + "'", Bench::busy, b -> due("FAULT", b.schema(text), fault));
            }
            Bench b = Bench.busy();
            b.schema("one a");
            due("STATUS 0", b.count(16), 2);
            due("STATUS 1", b.count(17), 1);
            due("fault", b.fault(), 5);
            b.schema("x");
            due("STATUS 0", b.count(16), 3);
        });
        sentence("RECORDS, ACTS, VIEW, PIPE, the image are gone", () -> {
            Bench b = Bench.busy();
            due("anew", b.schema("maybe a;"), 0);
            same("all", b.kept(), "counts 1 1 0 0 1 0 0 0 1 0 -1 -1 0 -1 0\nfield a 1 0 -1 1 0 1 0\nleaf , piped ");
            due("no ACT", b.undo(), NONE);
            due("no image", b.restore(), 0);
            due("no RECORD to drop", b.drop(), NONE);
            missing("no RECORD", () -> b.length(0, 1));
            due("STATUS 0 stays", b.count(16), 1);
            due("STATUS 1 stays, and the drop", b.count(17), 2);
            b.add("5;");
            due("no VIEW", b.seen(0), NONE);
            same("no PIPE", b.pipedValues(0), "5");
        });
        sentence("a SCHEMA, all anew: the same one too", () -> {
            Bench b = Bench.busy();
            b.schema(BASE);
            due("RECORDS", b.count(2), 0);
            due("ACTS", b.count(14), 0);
            due("VIEW", b.count(6), 0);
            due("no image", b.restore(), 0);
        });
        sentence("a SCHEMA, all anew: by fewer FIELDS, then by more", () -> {
            Bench b = Bench.made("maybe a;many b;", "5 [1 2];");
            b.schema("maybe c;");
            missing("FIELD 1", () -> b.field(1, 0));
            missing("LEAF 1", () -> b.leaf(1, 0));
            b.add("-;");
            b.damage(0, 0, 1, 1);
            due("no VALUE ever stood there", b.entry(0, 0, 2), 0);
            b.schema("one a;many b{maybe c;one d;}");
            b.add("7[];");
            same("a", b.column(0), "00:7");
            same("c", b.column(1), "00");
            same("d", b.column(2), "00");
            due("FIELDS", b.field(1, 6), 2);
        });
        sentence("a SCHEMA, all anew: nothing of one with a FAULT is left", () -> {
            Bench b = new Bench();
            same("three groups open", read("schema", b, "one a{one b{one c{one d;one e;"), "1@30");
            same("no FIELD in a group", read("schema", b, "one a{}"), "1@6");
            same("three groups again", read("schema", b, "many a{one b{one c{maybe d;}}}"), "ok");
            for (int i = 0; i < 3; i++) {
                due("FIELDS in " + i, b.field(i, 6), 1);
            }
            due("FIELDS", b.count(0), 4);
            due("LEAVES", b.count(1), 1);
            due("COVER", b.count(8), 1);
            b.schema("one a{one b;one c;one d;}x");
            b.schema("many a;one b{one c;}maybe d;");
            due("FIELDS in a", b.field(0, 6), 0);
            due("FIELDS in b", b.field(1, 6), 1);
            due("COVER", b.count(8), 5);
            same("told", read("add", b, "[1 2](3)4;"), "ok");
            same("all of it", b.told(0), "[1 2] (3) 4;");
            same("the last LEAF", b.told(0, 4), "4;");
        });
    }

    // ---- records ----

    private static void records() {
        sentence("RECORDS: RECORD RECORD*. RECORD: VALUES ';'", () -> {
            addIs("one a;", "", "1@0");
            addIs("one a;", " \n ", "1@3");
            addIs("one a;", ";", "1@0");
            addIs("one a;", "1;", "ok");
            addIs("one a;", "1;;", "1@2");
            addIs("one a;", "1;2", "1@3");
            addIs("one a;", "1 2;", "1@2");
            addIs("many a;", "[]", "1@2");
            due("two", Bench.made("one a;", "1;2;").count(2), 2);
        });
        sentence("of ONE an ITEM, of MAYBE '-' or an ITEM, of MANY '[' ITEM* ']'", () -> {
            String[] tokens = {"5", "-", "[]", "[5]", "(5)", "[5 6]", "[-]", "[(5)]", "[[]]", "a", ")", "]", "{", "}"};
            String[][] due = {
                {"one a;", "ok", "1@0", "1@0", "1@0", "1@0", "1@0", "1@0", "1@0", "1@0", "1@0", "1@0", "1@0", "1@0", "1@0"},
                {"maybe a;", "ok", "ok", "1@0", "1@0", "1@0", "1@0", "1@0", "1@0", "1@0", "1@0", "1@0", "1@0", "1@0", "1@0"},
                {"many a;", "1@0", "1@0", "ok", "ok", "1@0", "ok", "1@1", "1@1", "1@1", "1@0", "1@0", "1@0", "1@0", "1@0"},
                {"one a{one b;}", "1@0", "1@0", "1@0", "1@0", "ok", "1@0", "1@0", "1@0", "1@0", "1@0", "1@0", "1@0", "1@0",
                    "1@0"},
                {"maybe a{one b;}", "1@0", "ok", "1@0", "1@0", "ok", "1@0", "1@0", "1@0", "1@0", "1@0", "1@0", "1@0", "1@0",
                    "1@0"},
                {"many a{one b;}", "1@0", "1@0", "ok", "1@1", "1@0", "1@1", "1@1", "ok", "1@1", "1@0", "1@0", "1@0", "1@0",
                    "1@0"}};
            for (String[] row : due) {
                for (int i = 0; i < tokens.length; i++) {
                    addIs(row[0], tokens[i] + ";", row[i + 1]);
                }
            }
        });
        sentence("of a GROUP '(' VALUES ')'", () -> {
            addIs("one a{one b;one c;}", "(1 2);", "ok");
            addIs("one a{one b;one c;}", "(1);", "1@2");
            addIs("one a{one b;one c;}", "(1 2 3);", "1@5");
            addIs("one a{one b;one c;}", "();", "1@1");
            addIs("one a{one b;one c;}", "(1 2;", "1@4");
            addIs("one a{one b;one c;}", "(1 2];", "1@4");
            addIs("one a{one b{one c{one d;}}}", "(((7)));", "ok");
            addIs("one a{one b{one c{one d;}}}", "(((7));", "1@6");
            addIs("many a{maybe b;}", "[(-)(1)()];", "1@8");
            addIs("many a{maybe b;}", "[(-)(1);", "1@7");
        });
        sentence("a NUMBER, its VALUE (0 to 999); 2 a NUMBER of 4 digits or more (0 ahead counts)", () -> {
            Bench b = Bench.made("many a;");
            same("1 to 3 digits", read("add", b, "[0 9 00 10 99 000 007 070 100 999];"), "ok");
            same("told", b.told(0), "[0 9 0 10 99 0 7 70 100 999];");
            addIs("one a;", "1000;", "2@0");
            addIs("one a;", "0999;", "2@0");
            addIs("one a;", "0000;", "2@0");
            addIs("many a;", "[1 2 0003];", "2@5");
            addIs("one a;", "9".repeat(699) + ";", "2@0");
            addIs("maybe a;", "1000;", "2@0");
            addIs("many a;", "1000;", "1@0");
            addIs("one a;", "1 1000;", "1@2");
            addIs("one a;one b;", "1000 x;", "2@0");
            addIs("one a{one b;}", "(1000);", "2@1");
            addIs("many a{maybe b{one c{one d;}}}", "[(((1000)))];", "2@4");
        });
    }

    private static void recordsTooMany() {
        sentence("2: the first TOKEN of the 31st RECORD", () -> {
            same("30", read("add", Bench.made("one a;"), "1;".repeat(30) + " \n"), "ok");
            Bench b = Bench.made("one a;");
            same("31", read("add", b, "1;".repeat(31)), "2@60");
            due("none is", b.count(2), 0);
            addIs("one a;", "1;".repeat(30) + "  1;", "2@62");
            addIs("one a;", "1;".repeat(30) + "1", "2@60");
            addIs("one a;", "1;".repeat(30) + "1000;", "2@60");
            addIs("one a;", "1;".repeat(30) + "-;", "1@60");
            addIs("one a;", "1;".repeat(30) + ";", "1@60");
            addIs("maybe a;", "-;".repeat(30) + "-;", "2@60");
            addIs("maybe a;", "-;".repeat(30) + "[;", "1@60");
            addIs("many a;", "[];".repeat(30) + "[", "2@90");
            addIs("one a{one b;}", "(1);".repeat(30) + "(", "2@120");
            addIs("one a{one b;}", "(1);".repeat(30) + "1", "1@120");
        });
        sentence("the 31st RECORD, of those that are there too", () -> {
            Bench b = Bench.made("one a;", "1;".repeat(29));
            same("two more", read("add", b, "2;3;"), "2@2");
            due("none is", b.count(2), 29);
            same("one more", read("add", b, "2;"), "ok");
            same("the 31st", read("add", b, " 3;"), "2@1");
            same("a wrong one", read("add", b, "x;"), "1@0");
            same("an empty one", read("add", b, ""), "1@0");
            due("30", b.count(2), 30);
            due("one is dropped", b.drop(), 29);
            same("one more", read("add", b, "4;"), "ok");
            same("the last one", b.told(29), "4;");
            b.undo();
            b.undo();
            same("as it was", b.told(29), "2;");
            due("30", b.count(2), 30);
        });
    }

    private static void entriesTooMany() {
        sentence("2: ';' of one with which a LEAF has more than 120 ENTRIES", () -> {
            addIs("many a;", "[" + "1 ".repeat(120) + "];", "ok");
            addIs("many a;", "[" + "1 ".repeat(121) + "] ;", "2@245");
            addIs("many a;", "[" + "1 ".repeat(348) + "];", "2@698");
            addIs("many a;", "[" + "1 ".repeat(121) + "]", "1@244");
            addIs("many a;", "[" + "1 ".repeat(121) + "1000];", "2@243");
            addIs("many a;", "[" + "1 ".repeat(121) + "-];", "1@243");
            addIs("one b;many a{maybe c;}", "7[" + "(-)".repeat(120) + "];", "ok");
            addIs("one b;many a{maybe c;}", "7[" + "(-)".repeat(121) + "];", "2@366");
            addIs("many a{one b;}one c;", "[" + "(1)".repeat(121) + "]5;", "2@366");
        });
        sentence("more than 120 ENTRIES (those of this text counted)", () -> {
            String sixty = "[" + "1 ".repeat(60) + "];";
            addIs("many a;", sixty + sixty, "ok");
            addIs("many a;", sixty + sixty + "[];", "2@248");
            addIs("many a;", sixty + sixty + "[1", "1@248");
            Bench b = Bench.made("many a;one b;", "[" + "1 ".repeat(118) + "]1;");
            same("three more", read("add", b, "[1 2 3]2;"), "2@8");
            same("two records, three more", read("add", b, "[1 2]2;[]3;"), "2@10");
            due("none is", b.leaf(0, 1), 118);
            due("none of the other LEAF", b.leaf(1, 1), 1);
            same("two records, two more", read("add", b, "[1]2;[]3;"), "ok");
            due("120", b.leaf(0, 1), 120);
            same("one more", read("add", b, "[]4;"), "2@3");
            due("one is dropped", b.drop(), 2);
            same("room for one", read("add", b, "[9]5;"), "ok");
            due("the last ENTRY", b.entry(0, 119, 2), 9);
        });
        sentence("a text that doesn't fit leaves no trace", () -> {
            Bench b = Bench.made("maybe a;", "1;");
            same("faulty", read("add", b, "5;6;7"), "1@5");
            due("ENTRIES", b.leaf(0, 1), 1);
            missing("ENTRY 1", () -> b.entry(0, 1, 2));
            b.add("-;");
            b.damage(0, 1, 1, 1);
            due("no VALUE ever stood there", b.entry(0, 1, 2), 0);
        });
    }

    private static void adds() {
        sentence("add: 0, or the FAULT (none is)", () -> {
            String[] faulty = {"", "[] 1;[] 2", "[] 1;[] 1000;", "[] 1;[(1 - [2)] 3;", "[] 1;".repeat(28)};
            int[] faults = {1, 1, 2, 1, 2};
            for (int i = 0; i < faulty.length; i++) {
                String text = faulty[i];
                int fault = faults[i];
                allElseStays("add '" + text + "'", Bench::busy, b -> due("FAULT", b.add(text), fault));
            }
            Bench b = Bench.busy();
            b.add("[] 1;[] 2");
            due("STATUS 0", b.count(16), 2);
            due("STATUS 1", b.count(17), 1);
            due("fault", b.fault(), 9);
        });
        sentence("ADDED by the tape (all of a text, or none; one ACT)", () -> {
            Bench b = Bench.made("one a;");
            b.add("1;2;3;");
            due("RECORDS", b.count(2), 3);
            due("ACTS", b.count(14), 1);
            b.add("4;");
            due("ACTS", b.count(14), 2);
            b.add("5;6");
            due("ACTS", b.count(14), 2);
            due("undone", b.undo(), 1);
            due("RECORDS", b.count(2), 3);
            due("undone", b.undo(), 0);
            due("RECORDS", b.count(2), 0);
        });
        sentence("add: NONE (STATUS 1): CHECK finds anything", () -> {
            allElseStays("wrong", EdgeTextTests::wrongOne, b -> due("add", b.add("[] 1;"), NONE));
            Bench b = wrongOne();
            for (String text : new String[] {"[] 1;", "x", ""}) {
                due("add '" + text + "'", b.add(text), NONE);
                due("the tape", b.count(15), 0);
            }
            due("STATUS 0", b.count(16), 1);
            due("STATUS 1", b.count(17), 4);
            due("fault as it was", b.fault(), 5);
            argument("n below 0 is ahead of it", () -> b.add(-1));
            due("STATUS 1", b.count(17), 4);
            b.undo();
            due("mended", b.add("[] 1;"), 0);
        });
        sentence("add: NONE (STATUS 1): or there are no FIELDS", () -> {
            Bench b = new Bench();
            due("add", b.add("1;"), NONE);
            due("the tape", b.count(15), 0);
            due("of nothing", b.add(0), NONE);
            argument("n is ahead of it", () -> b.add(1));
            due("STATUS 0", b.count(16), 0);
            due("STATUS 1", b.count(17), 2);
            due("fault", b.fault(), NONE);
            due("ACTS", b.count(14), 0);
            b.schema("x");
            due("fault", b.fault(), 0);
            due("still no FIELDS", b.add("?"), NONE);
            due("fault as it was", b.fault(), 0);
        });
    }

    /** As busy, and a level is wrong. */
    private static Bench wrongOne() {
        Bench b = Bench.busy();
        b.damage(0, 0, 0, 1);
        return b;
    }

    // ---- views ----

    private static void viewKinds() {
        String[] kinds = {"one", "maybe", "many"};
        sentence("FAULT 3 at a NAME: one whose KIND is another than its own, but for ONE there and MAYBE here", () -> {
            for (int there = 0; there < 3; there++) {
                for (int here = 0; here < 3; here++) {
                    boolean fits = there == here || there == 0 && here == 1;
                    int place = kinds[here].length() + 1;
                    viewIs(kinds[there] + " a;", kinds[here] + " a;", fits ? "ok" : "3@" + place);
                    viewIs(kinds[there] + " a{one b;}", kinds[here] + " a{one b;}", fits ? "ok" : "3@" + place);
                    viewIs("many g{" + kinds[there] + " a;}", "many g{" + kinds[here] + " a;}",
                            fits ? "ok" : "3@" + (7 + place));
                }
            }
        });
        sentence("FAULT 3 at a NAME: a FIELD that is none, its GROUP (if any) being one, and is ONE", () -> {
            viewIs("one a;", "one b;", "3@4");
            viewIs("one a;", "maybe b;", "ok");
            viewIs("one a;", "many b;", "ok");
            viewIs("one a;", "one b{one a;}", "3@4");
            viewIs("one a;", "maybe b{one a;}", "ok");
            viewIs("one g{one a;}", "one g{one b;}", "3@10");
            viewIs("one g{one a;}", "one g{maybe b;}", "ok");
            viewIs("one g{one a;}", "one g{many b{one c;}}", "ok");
            viewIs("one g{one a;}", "one g{maybe b{one c{one d;}}}", "ok");
            viewIs("one g{one a;}one b;", "one g{one b;}", "3@10");
            viewIs("one g{one a;}one b;", "one a;", "3@4");
            viewIs("one g{one a;}one b;", "one g{one a;}one a;", "3@17");
            viewIs("one ab;", "one a;", "3@4");
            viewIs("one a;", "one ab;", "3@4");
            viewIs("one abcd;", "one abce;", "3@4");
            viewIs("", "one a;", "3@4");
            viewIs("", "maybe a;", "ok");
            viewIs("", "many a{one b;}", "ok");
        });
        sentence("FIELDS of a GROUP that is none are none, and of any KIND", () -> {
            viewIs("many a;many g{many a;}", "maybe q{one a;}", "ok");
            viewIs("many a;many g{many a;}", "maybe q{maybe a{one g;}}", "ok");
            viewIs("many a;", "maybe q{one r{one s;}one t;}many a;", "ok");
            Bench b = Bench.made("many a;many g{many a;}", "[1][([2])];");
            b.view("maybe q{many a;}many a;");
            same("none of it", b.seenText(0), "- [1];");
        });
        sentence("FAULT 3 at ';' or '{': it is one that is a GROUP, a LEAF", () -> {
            viewIs("one a{one b;}", "one a ;", "3@6");
            viewIs("one a;", "one a {one b;}", "3@6");
            viewIs("one a;", "one a{", "3@5");
            viewIs("many g{maybe a{one b;}}", "many g{maybe a;}", "3@14");
            viewIs("many g{maybe a;}", "many g{maybe a{one b;}}", "3@14");
            viewIs("one a;", "maybe q;maybe r{one a;}", "ok");
            viewIs("one a{one b;}", "maybe q{one a;}", "ok");
            viewIs("one a{one b;}", "one a(", "1@5");
        });
    }

    private static void viewFaults() {
        String sixteen = FOURTEEN + "one p{one o;}}";
        sentence("A VIEW: another SCHEMA (its bounds)", () -> {
            viewIs(sixteen, sixteen, "ok");
            viewIs(sixteen, sixteen + "maybe z;", "2@106");
            viewIs(sixteen, sixteen + "one z;", "2@106");
            viewIs(sixteen, "maybe z;", "ok");
            viewIs(sixteen, "one z;", "3@4");
            viewIs(sixteen, "one a{one p{one z;}}", "3@16");
            viewIs(EIGHT_LEAVES, EIGHT_LEAVES, "ok");
            viewIs(EIGHT_LEAVES, EIGHT_LEAVES + "maybe i;", "2@55");
            viewIs("one a;", "maybe qqqq;", "ok");
            viewIs("one a;", "maybe qqqqq;", "2@6");
            viewIs("one a;", "one qqqqq;", "2@4");
            viewIs("one a;", "maybe q{one b{one c{one d;}}}", "ok");
            viewIs("one a;", "maybe q{one b{one c{one d{one e;}}}}", "2@25");
            viewIs("one a;", "maybe q;maybe q;", "4@14");
            viewIs("one a;", "maybe q{one b;one b;}", "4@18");
            viewIs("one a;", "one a;maybe a;", "4@12");
            viewIs("one a;", "", "1@0");
            viewIs("one a;", " ", "1@1");
            viewIs("one a;", "one a", "1@5");
            viewIs("one a;", "maybe q{}", "1@8");
            viewIs("one a;", "one a;}", "1@6");
        });
        sentence("VIEW: FAULTS, the first along the text", () -> {
            viewIs("one a;", "one b;x", "3@4");
            viewIs("one a;", "x;one b;", "1@0");
            viewIs("one a;", "maybe q;maybe q;one b;", "4@14");
            viewIs("one a{one b;}", "one a;one qqqqq;", "3@5");
        });
    }

    private static void views() {
        sentence("view: in place of another one: 0, or the FAULT (it stays)", () -> {
            String[] faulty = {"", "one n", "one q;", "many n;", "one n;one n;", "maybe qqqqq;", "many g;", "one n{one x;}"};
            int[] faults = {1, 1, 3, 3, 4, 2, 3, 3};
            for (int i = 0; i < faulty.length; i++) {
                String text = faulty[i];
                int fault = faults[i];
                allElseStays("view '" + text + "'", Bench::busy, b -> due("FAULT", b.view(text), fault));
            }
            Bench b = Bench.busy();
            b.view("one q;");
            due("STATUS 0", b.count(16), 2);
            due("STATUS 1", b.count(17), 1);
            due("fault", b.fault(), 4);
            due("FIELDS of the VIEW", b.count(6), 6);
            due("another one", b.view("maybe k;one n;"), 0);
            due("FIELDS of the VIEW", b.count(6), 2);
            same("seen by it", b.seenText(1), "- 4;");
            due("STATUS 0", b.count(16), 2);
        });
        sentence("view: of the SCHEMA that there is, not of an earlier one, nor of an earlier VIEW", () -> {
            Bench b = Bench.made("one a;one b;one c{one d;}");
            for (int i = 0; i < 3; i++) {
                b.schema("one a;");
                same("a FIELD that is gone", read("view", b, "one b;"), "3@4");
                same("a FIELD that is gone", read("view", b, "one c{one d;}"), "3@4");
                same("a FIELD of the VIEW", read("view", b, "maybe b;many e;"), "ok");
                same("it is none of the SCHEMA", read("view", b, "one e;"), "3@4");
                b.add("5;");
                same("seen", b.seenText(0), "- [];");
                same("fewer FIELDS", read("view", b, "maybe b;"), "ok");
                same("seen", b.seenText(0), "-;");
            }
        });
        sentence("view changes the VIEW alone", () -> {
            Bench b = Bench.busy();
            b.view("one n;");
            due("RECORDS", b.count(2), 3);
            due("ACTS", b.count(14), 6);
            due("PIPE", b.count(7), 2);
            due("STATUS 0", b.count(16), 1);
            same("told", b.told(0), "[(1 - []) (3 - [7 8])] 9;");
            due("the image", b.restore(), 1);
        });
        sentence("view: also while anything is wrong, also without RECORDS, FIELDS", () -> {
            Bench b = wrongOne();
            due("wrong", b.view("one n;"), 0);
            due("FIELDS of the VIEW", b.count(6), 1);
            due("no RECORDS", Bench.made(BASE).view("one n;"), 0);
            due("no FIELDS", new Bench().view("maybe n;"), 0);
        });
    }

    // ---- pipes ----

    private static void pipeTexts() {
        sentence("A PIPE: a text, STEP*", () -> {
            pipeIs("", "ok");
            pipeIs(" \n", "ok");
            pipeIs(";", "1@0");
            pipeIs("plus 1;;", "1@7");
            pipeIs("plus 1;x", "1@7");
            due("STEPS of none", new Bench().count(7), 0);
        });
        sentence("STEP: ('plus' | 'times' | 'mod' | 'less' | 'more' | 'first' | 'gap') NUMBER ';'", () -> {
            for (String word : new String[] {"plus", "times", "mod", "less", "more", "first", "gap"}) {
                pipeIs(word + " 1;", "ok");
                pipeIs(word + "1;", "ok");
                pipeIs(word + "s 1;", "1@0");
                pipeIs(word.substring(1) + " 1;", "1@0");
                pipeIs(word.substring(0, word.length() - 1) + " 1;", "1@0");
                pipeIs("x" + word.substring(1) + " 1;", "1@0");
                pipeIs(word.substring(0, word.length() - 1) + "x 1;", "1@0");
                int n = word.length();
                pipeIs(word + ";", "1@" + n);
                pipeIs(word + " -1;", "1@" + (n + 1));
                pipeIs(word + " x;", "1@" + (n + 1));
                pipeIs(word + " 1 1;", "1@" + (n + 3));
                pipeIs(word + " 1", "1@" + (n + 2));
                pipeIs(word + " 1}", "1@" + (n + 2));
            }
            pipeIs("1;", "1@0");
            pipeIs("one 1;", "1@0");
        });
        sentence("NUMBER (0 to 999, 'mod' 1 to 999: else FAULT 2, as by 4 digits)", () -> {
            for (String word : new String[] {"plus", "times", "mod", "less", "more", "first", "gap"}) {
                int n = word.length() + 1;
                boolean mod = word.equals("mod");
                pipeIs(word + " 0;", mod ? "2@4" : "ok");
                pipeIs(word + " 000;", mod ? "2@4" : "ok");
                pipeIs(word + " 1;", "ok");
                pipeIs(word + " 001;", "ok");
                pipeIs(word + " 999;", "ok");
                pipeIs(word + " 1000;", "2@" + n);
                pipeIs(word + " 0001;", "2@" + n);
                pipeIs(word + " 0000", "2@" + n);
            }
            pipeIs("mod 0", "2@4");
            pipeIs("plus 1;mod 0;x", "2@11");
        });
        sentence("STEP* (at most 8): the first TOKEN of the 9th STEP", () -> {
            String eight = "plus 1;times 2;mod 3;less 4;more 5;first 6;gap 7;mod 8;";
            pipeIs(eight, "ok");
            pipeIs(eight + " ", "ok");
            pipeIs(eight + " gap 1;", "2@56");
            pipeIs(eight + "gap", "2@55");
            pipeIs(eight + "gab 1;", "1@55");
            pipeIs(eight + ";", "1@55");
            Bench b = new Bench();
            b.pipe(eight);
            due("STEPS", b.count(7), 8);
        });
    }

    private static void pipes() {
        sentence("pipe: in place of another one: 0, or the FAULT (it stays)", () -> {
            String[] faulty = {"x", "plus 1", "plus 1000;", "mod 0;", "gap 1;".repeat(9), "times 2;less 3;x"};
            int[] faults = {1, 1, 2, 2, 2, 1};
            for (int i = 0; i < faulty.length; i++) {
                String text = faulty[i];
                int fault = faults[i];
                allElseStays("pipe '" + text + "'", Bench::busy, b -> due("FAULT", b.pipe(text), fault));
            }
            Bench b = Bench.busy();
            due("a FAULT", b.pipe("gap 1;x"), 1);
            due("STATUS 0", b.count(16), 2);
            due("STATUS 1", b.count(17), 1);
            due("fault", b.fault(), 6);
            same("it stays", b.pipedValues(3), "10 9");
            due("another one", b.pipe("plus 2;"), 0);
            same("through it", b.pipedValues(3), "11 6 10");
            due("none", b.pipe(""), 0);
            due("STEPS", b.count(7), 0);
            same("through none", b.pipedValues(3), "9 4 8");
            due("ACTS", b.count(14), 6);
        });
        sentence("pipe: also while anything is wrong, also without RECORDS, FIELDS", () -> {
            Bench b = wrongOne();
            due("wrong", b.pipe("first 1;"), 0);
            same("through it", b.pipedValues(3), "9");
            due("no RECORDS", Bench.made(BASE).pipe("gap 1;"), 0);
            due("no FIELDS", new Bench().pipe("gap 1;"), 0);
        });
    }

    // ---- faults ----

    private static void faults() {
        sentence("fault: NONE without", () -> {
            Bench b = new Bench();
            due("new", b.fault(), NONE);
            b.schema("one a;");
            due("a right schema", b.fault(), NONE);
        });
        sentence("fault: the place of the FAULT of the latest of these texts that was read", () -> {
            Bench b = Bench.made("one a;");
            for (String how : TEXTS) {
                same(how, read(how, b, "  ?"), "1@2");
                due("again", b.fault(), 2);
                due("asked for twice", b.fault(), 2);
                String right = how.equals("add") ? "1;" : how.equals("pipe") ? "gap 1;" : "one a;";
                same(how, read(how, b, right), "ok");
            }
            read("add", b, "x");
            read("pipe", b, "plus 1;x");
            due("the latest", b.fault(), 7);
        });
        sentence("fault: from 0 up to the text's length", () -> {
            schemaIs("?" + blanks(699), "1@0");
            schemaIs("one a;" + blanks(693) + "?", "1@699");
            schemaIs("one a;one b" + blanks(689), "1@700");
        });
        sentence("(not: add() with NONE)", () -> {
            Bench b = wrongOne();
            b.pipe("  ?");
            due("add", b.add("?"), NONE);
            due("of the pipe", b.fault(), 2);
            b.pipe("");
            due("add", b.add("  "), NONE);
            due("none of the pipe", b.fault(), NONE);
        });
        sentence("fault: no other call changes it", () -> {
            Bench b = Bench.busy();
            b.drop();
            due("drop", b.fault(), 5);
            b.undo();
            due("undo", b.fault(), 5);
            b.image();
            b.restore();
            due("restore", b.fault(), 5);
            argument("n", () -> b.schema(1));
            due("no text", b.fault(), 5);
            b.set(0, 0, 1000);
            b.damage(0, 0, 0, 10);
            due("refused acts", b.fault(), 5);
        });
    }
}
