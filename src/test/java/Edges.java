import java.util.NoSuchElementException;
import java.util.function.Consumer;
import java.util.function.Supplier;

/** What the tests of single sentences share: each sentence of the document is named, and what is wrong with it is printed. */
abstract class Edges {
    static final int NONE = LeafStripes.NONE;
    static final int LEAST = Integer.MIN_VALUE;
    static final int MOST = Integer.MAX_VALUE;

    private static String now = "";
    private static int sentences;
    private static int checked;
    private static int wrong;

    interface Call {
        int run();
    }

    interface OfNumber {
        int run(int number);
    }

    interface Test {
        void run();
    }

    /** A sentence, as the document says it, and its test. */
    static void sentence(String text, Test test) {
        now = text;
        sentences++;
        try {
            test.run();
        } catch (RuntimeException e) {
            fail("threw " + e);
        }
    }

    static void end(String name) {
        System.out.println(name + ": " + sentences + " sentences, " + checked + " answers looked at, " + wrong + " wrong");
        if (wrong != 0) {
            System.exit(1);
        }
    }

    static void fail(String what) {
        wrong++;
        System.out.println("'" + now + "': " + what);
    }

    // ---- answers ----

    static void due(String what, int got, int want) {
        checked++;
        if (got != want) {
            fail(what + " answered " + got + ", due is " + want);
        }
    }

    static void same(String what, String got, String want) {
        checked++;
        if (!got.equals(want)) {
            fail(what + " told\n" + got + "\ndue is\n" + want);
        }
    }

    static void missing(String what, Call call) {
        thrown(what, call, NoSuchElementException.class);
    }

    static void argument(String what, Call call) {
        thrown(what, call, IllegalArgumentException.class);
    }

    private static void thrown(String what, Call call, Class<?> kind) {
        checked++;
        String got;
        try {
            got = String.valueOf(call.run());
        } catch (RuntimeException e) {
            if (e.getClass() == kind) {
                return;
            }
            got = e.toString();
        }
        fail(what + " answered " + got + ", due is " + kind.getSimpleName());
    }

    static void taken(String what, Call call) {
        checked++;
        try {
            call.run();
        } catch (RuntimeException e) {
            fail(what + " threw " + e);
        }
    }

    /** There is one from 0 up to the last, and none on either side. */
    static void onlyUpTo(int last, String what, OfNumber call) {
        if (last >= 0) {
            taken(what + " 0", () -> call.run(0));
            taken(what + " " + last, () -> call.run(last));
        }
        for (int number : new int[] {-1, LEAST, last + 1, last + 2, last + 257, MOST}) {
            missing(what + " " + number, () -> call.run(number));
        }
    }

    // ---- what stays ----

    /** A call that changes nothing: all answers behind it are as without it, those of undo() and restore() too. */
    static void nothingChanges(String what, Supplier<Bench> maker, Consumer<Bench> call) {
        Bench with = maker.get();
        call.accept(with);
        same(what + ": all", with.all(), maker.get().all());
        staysInside(what, maker, call);
    }

    /** As above, but STATUS, the tape and the FAULT's place may be others. */
    static void allElseStays(String what, Supplier<Bench> maker, Consumer<Bench> call) {
        Bench with = maker.get();
        call.accept(with);
        same(what + ": all else", with.kept(), maker.get().kept());
        staysInside(what, maker, call);
    }

    private static void staysInside(String what, Supplier<Bench> maker, Consumer<Bench> call) {
        Bench with = maker.get();
        call.accept(with);
        same(what + ": acts", with.undone(), maker.get().undone());
        Bench restored = maker.get();
        call.accept(restored);
        Bench plain = maker.get();
        due(what + ": image", restored.restore(), plain.restore());
        same(what + ": image", restored.kept(), plain.kept());
    }

    // ---- texts ----

    /** Of a text that is read: what it answered, and where the fault is. */
    static String read(String how, Bench b, String text) {
        int answer = how.equals("schema") ? b.schema(text) : how.equals("add") ? b.add(text)
                : how.equals("view") ? b.view(text) : b.pipe(text);
        int place = b.fault();
        return answer == 0 && place == NONE ? "ok" : answer + "@" + place;
    }

    static void schemaIs(String text, String due) {
        same("schema '" + text + "'", read("schema", new Bench(), text), due);
    }

    static void addIs(String schema, String text, String due) {
        Bench b = Bench.made(schema);
        same("add '" + text + "' to '" + schema + "'", read("add", b, text), due);
        if (!due.equals("ok")) {
            due("records of '" + text + "'", b.count(2), 0);
            due("entries of '" + text + "'", b.count(3), 0);
        }
    }

    static void viewIs(String schema, String text, String due) {
        Bench b = schema.isEmpty() ? new Bench() : Bench.made(schema);
        same("view '" + text + "' of '" + schema + "'", read("view", b, text), due);
        if (!due.equals("ok")) {
            due("fields of the view '" + text + "'", b.count(6), 0);
        }
    }

    static void pipeIs(String text, String due) {
        Bench b = new Bench();
        same("pipe '" + text + "'", read("pipe", b, text), due);
        if (!due.equals("ok")) {
            due("steps of '" + text + "'", b.count(7), 0);
        }
    }
}
