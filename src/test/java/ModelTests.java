import java.lang.reflect.InvocationTargetException;
import java.lang.reflect.Method;
import java.util.ArrayList;
import java.util.Arrays;
import java.util.Collections;
import java.util.HashMap;
import java.util.List;
import java.util.Map;
import java.util.NoSuchElementException;
import java.util.Random;

/** Random runs of calls on LeafStripes and on Model: each answer, and each exception, must be the same. */
public final class ModelTests {
    private static final int THROWS_MISSING = Integer.MIN_VALUE;
    private static final int THROWS_ARGUMENT = Integer.MIN_VALUE + 1;
    private static final int[] WILD = {Integer.MIN_VALUE, Integer.MAX_VALUE, Integer.MIN_VALUE + 1, -2, -1, 3, 7, 8, 9, 10,
        15, 16, 17, 29, 30, 31, 32, 63, 64, 119, 120, 121, 127, 128, 255, 256, 699, 700, 999, 1000, 1 << 30, 65536};
    private static final Map<String, Method> METHODS = new HashMap<>();
    private static final String[] NAMES = {"a", "b", "c", "d", "ab", "one", "many", "zzzz", "xy", "q", "g", "h"};

    private final Random random;
    private final LeafStripes mine = new LeafStripes();
    private final Model model = new Model();
    private final StringBuilder log = new StringBuilder();
    private int compared;
    private final int breadth;

    private ModelTests(long seed) {
        random = new Random(seed);
        breadth = 1 + random.nextInt(4);
    }

    public static void main(String[] args) {
        int runs = args.length > 0 ? Integer.parseInt(args[0]) : 1500;
        long first = args.length > 1 ? Long.parseLong(args[1]) : 0;
        long compared = 0;
        for (long seed = first; seed < first + runs; seed++) {
            ModelTests test = new ModelTests(seed);
            try {
                test.run();
            } catch (RuntimeException | AssertionError e) {
                System.out.println("seed " + seed + ": " + e);
                System.out.println(test.log);
                e.printStackTrace(System.out);
                System.exit(1);
            }
            compared += test.compared;
        }
        System.out.println("ModelTests: " + runs + " runs, " + compared + " answers as due");
    }

    private int upTo(int n) {
        return random.nextInt(n + 1);
    }

    private boolean rarely(int n) {
        return random.nextInt(n) == 0;
    }

    private void run() {
        if (rarely(10)) {
            someCalls(10);
        }
        if (rarely(8)) {
            // few bytes a record: so there come to be 30 of them, 120 entries, 40 acts
            send("schema", new String[] {"maybe a;", "many a;", "many a;maybe b;", "many a{maybe b;}"}[upTo(3)]);
        }
        for (int i = 0; i < 6 && model.count(0) == 0; i++) {
            send("schema", schemaText());
        }
        int parts = 4 + upTo(8);
        for (int i = 0; i < parts; i++) {
            part();
        }
        allOfState();
    }

    private void part() {
        int which = upTo(20);
        if (which < 8) {
            send("add", recordsText());
        } else if (which < 11) {
            send("view", viewText());
        } else if (which < 13) {
            send("pipe", pipeText());
        } else if (which == 13 && rarely(5)) {
            send("schema", schemaText());
        } else if (which == 14) {
            call("image");
        } else if (which == 15) {
            call("restore");
        } else if (which == 16) {
            int many = rarely(8) ? 45 : 1 + upTo(4);
            for (int i = 0; i < many; i++) {
                call("undo");
            }
        } else if (which == 17 || which == 20) {
            damageSome();
        } else if (which == 18) {
            for (int i = upTo(3); i >= 0; i--) {
                call("drop");
            }
        } else {
            setSome();
        }
        if (rarely(3)) {
            allOfState();
        }
        someCalls(20);
    }

    private void damageSome() {
        int many = rarely(4) ? 50 : 1 + upTo(3);
        for (int i = 0; i < many; i++) {
            int first = model.count(13);
            if (first != -1 && rarely(2)) {
                call("damage", first / 10000, first % 10000 / 20, first % 20 / 10, first % 10);
            } else {
                int leaf = upTo(Math.max(0, model.count(1) - 1));
                int what = upTo(1);
                int most = model.count(1) == 0 ? 0 : model.field(model.leaf(leaf, 0), what == 0 ? 4 : 3);
                call("damage", leaf, upTo(entries(leaf)), what, rarely(12) ? upTo(12) - 1 : upTo(most));
                if (rarely(3)) {
                    call("count", 9);
                    call("count", 10);
                    call("count", 11);
                    call("undo");
                }
            }
        }
        call("count", 9);
        call("count", 10);
        call("count", 11);
        if (rarely(2)) {
            for (int i = 0; i < many; i++) {
                call("undo");
            }
        }
    }

    private void setSome() {
        for (int i = upTo(5); i >= 0; i--) {
            int leaf = upTo(Math.max(0, model.count(1) - 1));
            call("set", leaf, upTo(entries(leaf)), rarely(8) ? upTo(1100) - 50 : upTo(9));
        }
    }

    private int entries(int leaf) {
        return leaf >= 0 && leaf < model.count(1) ? model.leaf(leaf, 1) : 0;
    }

    private void someCalls(int many) {
        for (int i = 0; i < many; i++) {
            if (rarely(4)) {
                wildCall();
            } else {
                someCall();
            }
        }
    }

    private int aLeaf() {
        return rarely(15) ? upTo(12) - 2 : upTo(Math.max(0, model.count(1) - 1));
    }

    private int aRecord() {
        return rarely(15) ? upTo(34) - 2 : upTo(Math.max(0, model.count(2) - 1));
    }

    private int aSet() {
        int all = 1 << model.count(1);
        return rarely(20) ? random.nextInt() : rarely(15) ? upTo(all) : 1 + random.nextInt(Math.max(1, all - 1));
    }

    private void someCall() {
        int leaf = aLeaf();
        int record = aRecord();
        int set = aSet();
        switch (upTo(21)) {
            case 0: call("count", rarely(20) ? 20 - upTo(25) : upTo(17)); break;
            case 1: call("field", upTo(model.count(0) + 1) - 1, upTo(8) - 1); break;
            case 2: call("name", upTo(model.count(0) + 1) - 1, upTo(6) - 1); break;
            case 3: call("leaf", leaf, upTo(7) - 1); break;
            case 4: call("entry", leaf, upTo(entries(leaf) + 1) - 1, upTo(4) - 1); break;
            case 5: call("skip", leaf, record, upTo(3) - 1); break;
            case 6: call("next", set, leaf, upTo(6) - 1); break;
            case 7: call("length", record, set); break;
            case 8: call("sign", record, set, upTo(30) - 1); break;
            case 9: call("reads", record, set); break;
            case 10: call("seen", record); break;
            case 11: call("seenSign", record, upTo(30) - 1); break;
            case 12: call("fold", leaf, upTo(9) - 1); break;
            case 13: call("picked", leaf, upTo(5) - 1, upTo(12)); break;
            case 14: call("pages", leaf, rarely(3) ? upTo(122) : upTo(10)); break;
            case 15: call("piped", leaf, upTo(10) - 2); break;
            case 16: call("years", random.nextInt(), rarely(10) ? upTo(14) - 2 : upTo(10), upTo(4) - 1); break;
            case 17: call("fault"); break;
            case 18: call("count", 16); break;
            case 19: call("count", 17); break;
            case 20: call("set", leaf, upTo(entries(leaf) + 1) - 1, upTo(20)); break;
            default: call("damage", leaf, upTo(entries(leaf) + 1) - 1, 5 + upTo(3), upTo(4)); break;
        }
    }

    /** Any call but a text's, with any numbers. */
    private void wildCall() {
        String[] names = {"count", "fault", "undo", "drop", "seen", "field", "name", "leaf", "length", "reads", "seenSign",
            "fold", "pages", "piped", "entry", "skip", "next", "sign", "picked", "set", "years", "damage"};
        int[] parameters = {1, 0, 0, 0, 1, 2, 2, 2, 2, 2, 2, 2, 2, 2, 3, 3, 3, 3, 3, 3, 3, 4};
        int which = random.nextInt(names.length);
        int[] a = new int[parameters[which]];
        for (int i = 0; i < a.length; i++) {
            a[i] = rarely(2) ? WILD[random.nextInt(WILD.length)] : upTo(2);
        }
        call(names[which], a);
    }

    private void allOfState() {
        for (int i = 0; i <= 17; i++) {
            call("count", i);
        }
        for (int leaf = 0; leaf < model.count(1); leaf++) {
            for (int e = 0; e < model.leaf(leaf, 1); e++) {
                call("entry", leaf, e, 0);
                call("entry", leaf, e, 1);
                call("entry", leaf, e, 2);
            }
            for (int v = -1; v < 3; v++) {
                call("piped", leaf, v);
            }
        }
        for (int r = 0; r < model.count(2); r++) {
            int set = aSet();
            callAll(r, set);
        }
    }

    private void callAll(int record, int set) {
        int length = call("length", record, set);
        for (int i = 0; i <= length; i++) {
            call("sign", record, set, i);
        }
        call("reads", record, set);
        int seen = call("seen", record);
        for (int i = 0; i <= seen; i++) {
            call("seenSign", record, i);
        }
    }

    // ---- texts ----

    private String schemaText() {
        StringBuilder sb = new StringBuilder();
        int top = 1 + upTo(rarely(6) ? 16 : breadth);
        for (int i = 0; i < top; i++) {
            fieldText(sb, 0, i);
        }
        return spoiled(sb.toString(), 12);
    }

    private String kind() {
        return new String[] {"one ", "maybe ", "many "}[upTo(2)];
    }

    private void fieldText(StringBuilder sb, int depth, int i) {
        String name = rarely(25) ? NAMES[random.nextInt(NAMES.length)] : NAMES[i % NAMES.length];
        sb.append(kind()).append(rarely(150) ? "abcde" : name);
        if (depth < (rarely(60) ? 5 : 3) && rarely(depth == 0 ? 2 : 3)) {
            sb.append(rarely(2) ? "{" : " {\n");
            int in = 1 + upTo(breadth);
            for (int k = 0; k < in; k++) {
                fieldText(sb, depth + 1, k);
            }
            sb.append('}');
        } else {
            sb.append(';');
        }
    }

    private String viewText() {
        StringBuilder sb = new StringBuilder();
        viewFields(sb, model.shape().top, 0);
        if (sb.length() == 0) {
            sb.append("maybe q;");
        }
        return spoiled(sb.toString(), 15);
    }

    private void viewFields(StringBuilder sb, List<Model.Field> fields, int depth) {
        List<Model.Field> order = new ArrayList<>(fields);
        if (rarely(2)) {
            Collections.shuffle(order, random);
        }
        int start = sb.length();
        if (!order.isEmpty() && rarely(25)) {
            order.add(order.get(0));
        }
        for (Model.Field f : order) {
            if (rarely(4)) {
                continue;
            }
            int kind = f.kind == 0 && rarely(3) ? 1 : rarely(25) ? upTo(2) : f.kind;
            sb.append(new String[] {"one ", "maybe ", "many "}[kind]).append(f.name);
            if (f.leaf == -1 != rarely(40)) {
                sb.append('{');
                viewFields(sb, f.fields, depth + 1);
                sb.append('}');
            } else {
                sb.append(';');
            }
        }
        if (rarely(3) || sb.length() == start) {
            sb.append(rarely(20) ? "one " : rarely(2) ? "maybe " : "many ").append("n").append((char) ('a' + upTo(25)));
            sb.append(depth < 3 && rarely(3) ? "{one a;many b;}" : ";");
        }
    }

    private String recordsText() {
        StringBuilder sb = new StringBuilder();
        int many = rarely(6) ? 31 : 1 + upTo(3);
        int width = rarely(6) ? 12 : rarely(5) ? 60 : 3;
        for (int i = 0; i < many; i++) {
            int before = sb.length();
            valuesText(sb, model.shape().top, width);
            sb.append(';');
            if (sb.length() > 700 && i > 0) {
                sb.setLength(before);
                break;
            }
        }
        if (model.count(0) == 0) {
            return "1;";
        }
        return spoiled(sb.toString(), 8);
    }

    private void valuesText(StringBuilder sb, List<Model.Field> fields, int width) {
        for (Model.Field f : fields) {
            if (f.kind == 1 && rarely(2)) {
                sb.append('-');
            } else if (f.kind == 2) {
                sb.append('[');
                int many = upTo(f.leaf != -1 || rarely(3) ? width : 2);
                for (int i = 0; i < many && sb.length() < 690; i++) {
                    itemText(sb, f, width);
                }
                sb.append(']');
            } else {
                itemText(sb, f, width);
            }
            if (rarely(5)) {
                sb.append(' ');
            }
        }
    }

    private void itemText(StringBuilder sb, Model.Field f, int width) {
        if (f.leaf != -1) {
            sb.append(rarely(300) ? 1000 : rarely(5) ? upTo(999) : upTo(9)).append(rarely(40) ? "\n" : " ");
        } else {
            sb.append('(');
            valuesText(sb, f.fields, width);
            sb.append(')');
        }
    }

    private String pipeText() {
        StringBuilder sb = new StringBuilder();
        int many = rarely(10) ? 9 : upTo(4);
        String[] words = {"plus ", "times", "mod ", "less ", "more ", "first ", "gap "};
        for (int i = 0; i < many; i++) {
            sb.append(words[upTo(6)]).append(rarely(3) ? upTo(999) : 1 + upTo(5)).append(';');
        }
        return spoiled(sb.toString(), 6);
    }

    /** Now and then one byte is another, is gone or comes. */
    private String spoiled(String text, int n) {
        if (!rarely(n) || text.isEmpty()) {
            return text;
        }
        String signs = ";{}()[]- \n0123456789abcmanyone" + (char) 0 + (char) 200 + "A.";
        int at = random.nextInt(text.length());
        char c = signs.charAt(random.nextInt(signs.length()));
        switch (upTo(2)) {
            case 0: return text.substring(0, at) + c + text.substring(at + 1);
            case 1: return text.substring(0, at) + text.substring(at + 1);
            default: return text.substring(0, at) + c + text.substring(at);
        }
    }

    private void send(String how, String text) {
        String sent = text.length() > 700 ? text.substring(0, 700) : text;
        StringBuilder padded = new StringBuilder(sent);
        while (padded.length() % 20 != 0) {
            padded.append(rarely(30) ? ';' : ' ');
        }
        log.append(how).append(": ").append(sent).append('\n');
        for (int i = 0; i < padded.length(); i += 20) {
            int[] w = new int[5];
            for (int k = 0; k < 20; k++) {
                w[k / 4] = w[k / 4] << 8 | padded.charAt(i + k);
            }
            call("feed", w);
        }
        if (rarely(10)) {
            call("feed", random.nextInt(), 1, 2, 3, 4);
        }
        if (rarely(20)) {
            call(how, rarely(2) ? -1 - upTo(3) : 701);
        }
        int n = rarely(25) ? upTo(sent.length()) : sent.length();
        call(how, n);
        call("fault");
    }

    // ---- calls ----

    private int call(String name, int... a) {
        int due = answer(true, name, a);
        int got = answer(false, name, a);
        log.append(name).append(Arrays.toString(a)).append(" = ").append(due).append('\n');
        compared++;
        if (due != got) {
            throw new AssertionError(name + Arrays.toString(a) + " answered " + got + ", due is " + due);
        }
        return due;
    }

    private int answer(boolean ofModel, String name, int[] a) {
        try {
            Object got = method(ofModel ? Model.class : LeafStripes.class, name, a.length)
                    .invoke(ofModel ? model : mine, (Object[]) Arrays.stream(a).boxed().toArray(Integer[]::new));
            return got == null ? 0 : got instanceof Boolean ? (Boolean) got ? 1 : 0 : (Integer) got;
        } catch (InvocationTargetException e) {
            if (e.getCause() instanceof NoSuchElementException) {
                return THROWS_MISSING;
            }
            if (e.getCause().getClass() == IllegalArgumentException.class) {
                return THROWS_ARGUMENT;
            }
            throw new AssertionError(name + Arrays.toString(a) + (ofModel ? " of the model" : ""), e.getCause());
        } catch (IllegalAccessException e) {
            throw new AssertionError(e);
        }
    }

    private static Method method(Class<?> c, String name, int parameters) {
        return METHODS.computeIfAbsent(c.getName() + name + parameters, key -> {
            for (Method m : c.getDeclaredMethods()) {
                if (m.getName().equals(name) && m.getParameterCount() == parameters) {
                    return m;
                }
            }
            throw new AssertionError("no method " + name);
        });
    }
}
