import java.lang.reflect.InvocationTargetException;
import java.lang.reflect.Method;
import java.util.ArrayList;
import java.util.Arrays;
import java.util.HashMap;
import java.util.List;
import java.util.Map;
import java.util.Random;
import java.util.TreeMap;

/** Makes runs of calls from fixed seeds, and compares what HexTemplates and the Model answer. */
public final class CompareTest {
    private static final String[] TEMPLATES = {
        "F{m:b=77;n:b=#d;d:s(n);c:b=+d;}",
        "F{l:W=#b;b:B;}B{n:b=%a;a:C|D[n];s:b=+a;}C{t:b=1;v:b;}D{t:b=2;v:W;}",
        "F{r:rN;d:s(4);a:N[!255];e:b=255;}N{q:rN;v:b;}",
        "R{n:b;c:R[n];}",
        "F{a:n3;b:n5;c:A[?a];d:z;}A{x:b;y:rF;}",
        "F{a:A[*];z:z;}A{l:b=#s;s:s(l);k:b=^s;}",
        "F{n:b=%a;a:A[n];c:w=+a;d:W=^c;}A{m:b=%x;x:B[m];l:b=+x;}B{y:rB;}",
        "F{a:A[*];}A{b:B|C|D;}B{x:b=1;y:b;}C{x:b=2;y:B;}D{x:b=3;y:b;z:b;}",
        "F{a:b=#h;b:b=#g;c:b=#f;d:b=#e;e:s(c);f:s(b);g:s(a);h:s(3);}",
        "F{a:b=+b;b:b=+c;c:b=^d;d:s(3);r:rF;t:rG;}G{x:F;}",
        "F{h:n1;i:n7;j:n8;k:n4;l:n2;m:n2;a:A[m*l-h];}A{q:rA;p:rB;}B{p:rA;}",
        "F{l:w=#a;a:A|B[!0];e:b;}A{c:b=5;t:z;}B{r:rA;s:s(2);}",
        "F{n:b=%a;a:E[n];m:b=%c;c:E|B[m];r:rE;}E{}B{x:b;}",
        "F{a:A;b:b=+a;}A{a:B;b:b=+a;}B{a:C;b:b=+a;}C{n:b=#s;s:s(n);b:b=^s;}",
    };
    private static final String[] CALLS = {"feed", "give", "template", "size", "byteAt", "state", "parent", "goTo",
        "chosen", "fault", "nodes", "node", "wrong", "wrongByAll", "follow", "chain", "find", "findField", "set",
        "insert", "remove", "element", "repair", "hunk", "patch"};

    private final Random random;
    private final HexTemplates real = new HexTemplates();
    private final Model model = new Model();
    private final List<String> log = new ArrayList<>();
    private final Map<String, Integer> tally;
    private boolean isUnlike = false;
    private int calls = 0;
    private int budget = 0;

    private CompareTest(long seed, Map<String, Integer> tally) {
        random = new Random(seed);
        this.tally = tally;
    }

    public static void main(String[] args) throws Exception {
        int runs = args.length > 0 ? Integer.parseInt(args[0]) : 400;
        long first = args.length > 1 ? Long.parseLong(args[1]) : 0;
        Map<String, Integer> tally = new TreeMap<>();
        for (long seed = first; seed < first + runs; seed++) {
            CompareTest run = new CompareTest(seed, tally);
            run.run();
            if (run.isUnlike) {
                System.out.println("seed " + seed);
                for (String line : run.log) System.out.println("  " + line);
                System.exit(1);
            }
        }
        if (args.length > 2) tally.forEach((k, v) -> System.out.println(k + ": " + v));
    }

    private int below(int n) {
        return random.nextInt(n);
    }

    private boolean oneIn(int n) {
        return below(n) == 0;
    }

    private static final Map<String, Method> FACES = new HashMap<>();

    private static Method method(Class<?> where, String name) {
        return FACES.computeIfAbsent(where.getName() + "." + name, k -> {
            for (Method m : where.getDeclaredMethods()) {
                if (m.getName().equals(name) && java.lang.reflect.Modifier.isPublic(m.getModifiers())) return m;
            }
            throw new AssertionError(k);
        });
    }

    private static String answer(Object on, String name, Object[] given) throws Exception {
        try {
            return method(on.getClass(), name).invoke(on, given).toString();
        } catch (InvocationTargetException e) {
            Throwable t = e.getCause();
            return "throws." + t.getClass().getSimpleName();
        }
    }

    private String call(String name, Object... given) throws Exception {
        if (calls >= 512) return "";
        calls++;
        String due = answer(model, name, given);
        String got = answer(real, name, given);
        log.add(name + Arrays.toString(given) + " = " + got);
        String kind = due.startsWith("throws") ? due : "fine";
        if (name.equals("fault") && !(Boolean) given[1]) kind = due;
        if (name.equals("chain")) kind = due;
        tally.merge(name + " " + kind, 1, Integer::sum);
        if (!due.equals(got)) {
            log.add("due is " + due);
            isUnlike = true;
        }
        return due;
    }

    private void run() throws Exception {
        int forms = 1 + below(3);
        for (int k = 0; k < forms; k++) tell(form());
        for (int k = 0; k < 200 && !isUnlike; k++) {
            if (k == 0 || oneIn(25)) giveOne();
            else if (oneIn(150)) tell(form());
            else step();
        }
    }

    private void tell(String text) throws Exception {
        feedAll(text.chars().toArray());
        call("template", oneIn(30) ? below(20) - 5 : below(10));
    }

    private void feedAll(int[] bytes) throws Exception {
        for (int k = 0; k < bytes.length;) {
            int n = Math.min(bytes.length - k, oneIn(5) ? 1 + below(8) : 8);
            long all = n < 8 ? random.nextLong() << 8 * n : 0;
            for (int j = 0; j < n; j++) all |= (long) bytes[k + j] << 8 * j;
            call("feed", all, n);
            k += n;
        }
    }

    private void giveOne() throws Exception {
        List<Integer> bytes = new ArrayList<>();
        if (!model.forms.isEmpty() && !oneIn(12)) {
            Model.Form form = model.forms.get(below(model.forms.size()));
            budget = 400;
            fill(form, form.structs.get(0), bytes, 0);
            for (int k = oneIn(2) ? below(6) : 0; k > 0; k--) bytes.add(small());
            if (oneIn(4) && !bytes.isEmpty()) bytes.set(below(bytes.size()), below(256));
        } else {
            for (int k = oneIn(3) ? below(190) : below(12); k > 0; k--) bytes.add(small());
        }
        while (bytes.size() > 160 && !oneIn(40) || bytes.size() > 195) bytes.remove(bytes.size() - 1);
        feedAll(bytes.stream().mapToInt(b -> b).toArray());
        call("give");
        call("chosen");
        call("nodes");
        for (int k = 0; k < model.forms.size(); k++) {
            call("fault", k, false);
            call("fault", k, true);
        }
        if (oneIn(2)) call("repair");
    }

    private int small() {
        return oneIn(6) ? below(256) : oneIn(3) ? below(12) : below(4);
    }

    /** Makes bytes that the structure may read. */
    private void fill(Model.Form form, Model.Struct s, List<Integer> bytes, int depth) {
        Map<Character, Integer> told = new HashMap<>();
        int bits = 0;
        for (Model.Field f : s.fields) {
            if (bytes.size() > 300 || depth > 6 || budget-- < 0) return;
            int value = f.relation != null && Character.isDigit(f.relation.charAt(0)) ? Integer.parseInt(f.relation) : small();
            char c = f.first();
            if (f.isArray() || c == 's') {
                String in = f.inside();
                int count = below(4);
                if (oneIn(20)) count += below(60);
                if (in.charAt(0) == '?') count = Model.Reading.sum(in.substring(1), told) == 0 ? 0 : 1;
                else if (in.charAt(0) != '*' && in.charAt(0) != '!') count = Model.Reading.sum(in, told);
                for (int k = 0; k < count && k < 100; k++) {
                    if (c == 's') bytes.add(small());
                    else fill(form, form.struct(f.names()[below(f.names().length)].charAt(0)), bytes, depth + 1);
                }
            } else if (f.isNames()) {
                fill(form, form.struct(f.names()[below(f.names().length)].charAt(0)), bytes, depth + 1);
            } else if (c == 'z') {
                for (int k = below(4); k > 0; k--) bytes.add(1 + below(255));
                bytes.add(0);
            } else if (c == 'n') {
                int n = f.type.charAt(1) - '0';
                value &= (1 << n) - 1;
                if (bits == 0) bytes.add(0);
                bits += n;
                bytes.set(bytes.size() - 1, bytes.get(bytes.size() - 1) | value << (8 - bits));
                bits %= 8;
            } else if (c == 'w') {
                bytes.add(value & 255);
                bytes.add(value >> 8);
            } else if (c == 'W') {
                bytes.add(value >> 8);
                bytes.add(value & 255);
            } else {
                if (c == 'r' && oneIn(2)) value = below(30);
                bytes.add(value & 255);
            }
            if (f.isNumeric()) told.put(f.name, value);
        }
    }

    private void step() throws Exception {
        int size = model.nodes();
        int node = oneIn(20) ? below(size + 4) - 2 : size == 0 ? 0 : below(size);
        int states = model.files.size();
        int one = oneIn(20) ? below(40) - 5 : below(Math.max(1, states));
        int two = oneIn(20) ? below(40) - 5 : below(Math.max(1, states));
        String name = CALLS[below(CALLS.length)];
        if (oneIn(2)) name = CALLS[18 + below(5)];
        switch (name) {
            case "feed": if (oneIn(30)) call(name, random.nextLong(), below(12) - 2); break;
            case "give": case "template": if (oneIn(60)) { if (name.equals("give")) call(name); else call(name, below(12) - 1); } break;
            case "byteAt": call(name, below(size() + 4) - 2); break;
            case "parent": case "goTo": call(name, one); break;
            case "fault": call(name, below(6) - 1, oneIn(2)); break;
            case "node": call(name, node, below(9) - 1); break;
            case "follow": case "chain": call(name, pick(node, 3), new Object[0]); break;
            case "find": call(name, below(oneIn(10) ? 300 : 256), below(oneIn(10) ? 300 : 256), oneIn(10) ? below(230) - 10 : below(size() + 1)); break;
            case "findField": call(name, oneIn(10) ? below(40) - 5 : below(26), oneIn(20) ? below(80000) - 10 : small(), oneIn(10) ? below(230) - 10 : below(size + 1)); break;
            case "set": call(name, node, oneIn(3) ? below(66000) - 5 : small()); check(); break;
            case "insert": node = pick(node, 5); call(name, node, place(node), oneIn(15) ? below(300) - 10 : below(256)); check(); break;
            case "remove": node = pick(node, 5); call(name, node, place(node)); check(); break;
            case "element": node = pick(node, 1); call(name, node, place(node), oneIn(2)); check(); break;
            case "hunk": call(name, one, two, below(5) - 1); break;
            case "patch": call(name, one, two); check(); break;
            case "repair": if (oneIn(4)) call(name); check(); break;
            default: call(name);
        }
    }

    private String call(String name, int node, Object[] none) throws Exception {
        return call(name, (Object) node);
    }

    private int size() {
        return model.size();
    }

    /** A node of a kind, if there is one. */
    private int pick(int node, int kind) {
        int size = model.nodes();
        if (size == 0 || oneIn(15)) return node;
        for (int k = 0; k < size; k++) {
            int one = (Math.floorMod(node, size) + k) % size;
            if (model.node(one, 0) == kind) return one;
        }
        return node;
    }

    private int place(int node) {
        if (node < 0 || node >= model.nodes()) return below(4);
        int kind = model.node(node, 0);
        int size = kind == 1 ? model.node(node, 4) : model.node(node, 3);
        return oneIn(10) ? below(size + 4) - 2 : below(size + 1);
    }

    /** Looks at the whole file, and now and then at all nodes. */
    private void check() throws Exception {
        if (model.files.size() >= 29 && oneIn(3)) call("goTo", below(model.files.size()));
        call("size");
        for (int k = 0; k < size(); k++) if (real.byteAt(k) != model.byteAt(k)) call("byteAt", k);
        call("wrong");
        call("wrongByAll");
        if (real.nodes() != model.nodes()) call("nodes");
        if (oneIn(5)) {
            for (int k = 0; k < model.nodes(); k++) {
                for (int what = 0; what < 7; what++) if (real.node(k, what) != model.node(k, what)) call("node", k, what);
            }
        }
    }

    // ---- templates

    private String form() {
        if (oneIn(2)) return oneIn(6) ? spoil(TEMPLATES[below(TEMPLATES.length)]) : TEMPLATES[below(TEMPLATES.length)];
        String names = "ABCDEF".substring(0, 1 + below(oneIn(8) ? 6 : 4));
        StringBuilder text = new StringBuilder();
        for (char name : names.toCharArray()) text.append(struct(name, names));
        return oneIn(6) ? spoil(text.toString()) : text.substring(0, Math.min(text.length(), 200));
    }

    private String spoil(String text) {
        StringBuilder made = new StringBuilder(text);
        int place = below(text.length());
        char c = "AFWabnrswz0123456789:;{}[]()=#%+^*!?|-".charAt(below(38));
        switch (below(4)) {
            case 0: made.deleteCharAt(place); break;
            case 1: made.insert(place, c); break;
            case 2: made.setCharAt(place, (char) below(256)); break;
            default: made.setCharAt(place, c);
        }
        return made.substring(0, Math.min(made.length(), 200));
    }

    private String struct(char name, String names) {
        StringBuilder text = new StringBuilder().append(name).append('{');
        int fields = oneIn(30) ? below(10) : 1 + below(4);
        String numbers = "";
        StringBuilder arrays = new StringBuilder();
        int bits = 0;
        for (int k = 0; k < fields; k++) {
            char own = (char) ('a' + k);
            text.append(own).append(':');
            if (bits > 0) {
                int n = k == fields - 1 ? 8 - bits : 1 + below(8 - bits);
                text.append('n').append(n).append(';');
                bits = (bits + n) % 8;
                numbers += own;
                continue;
            }
            switch (below(10)) {
                case 0: case 1: case 2:
                    text.append("bbwW".charAt(below(4)));
                    numbers += own;
                    if (oneIn(2)) {
                        text.append('=');
                        char other = (char) ('a' + below(fields));
                        if (oneIn(3)) text.append(oneIn(20) ? below(1000) : below(3));
                        else text.append("##%+^".charAt(below(5))).append(other);
                    }
                    break;
                case 3: text.append('r').append(pick(names)); numbers += own; break;
                case 4:
                    int n = k == fields - 1 ? 8 : 1 + below(8);
                    text.append('n').append(n);
                    bits = n % 8;
                    numbers += own;
                    break;
                case 5: text.append("s(").append(sum(numbers)).append(')'); break;
                case 6: text.append('z'); break;
                default: text.append(pick(names)); while (oneIn(3)) text.append('|').append(pick(names));
                    if (!oneIn(4)) {
                        text.append('[');
                        switch (below(5)) {
                            case 0: text.append('*'); break;
                            case 1: text.append('!').append(oneIn(3) ? below(1000) : below(5)); break;
                            case 2: text.append('?').append(sum(numbers)); break;
                            default: text.append(sum(numbers));
                        }
                        text.append(']');
                    }
            }
            text.append(';');
        }
        return text.append('}').toString();
    }

    private char pick(String from) {
        return from.charAt(below(from.length()));
    }

    private String sum(String numbers) {
        StringBuilder text = new StringBuilder();
        do {
            if (text.length() > 0) text.append("+-*".charAt(below(3)));
            if (numbers.isEmpty() || oneIn(3)) text.append(oneIn(20) ? below(1000) : below(4));
            else text.append(numbers.charAt(below(numbers.length())));
        } while (oneIn(3));
        return text.toString();
    }
}
