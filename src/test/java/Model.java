import java.util.ArrayList;
import java.util.HashMap;
import java.util.HashSet;
import java.util.List;
import java.util.Map;
import java.util.Set;
import java.util.regex.Matcher;
import java.util.regex.Pattern;

/** The document once more, written plainly with the Java library: what HexTemplates is compared with. */
public final class Model {
    static final String NAME = "[A-VX-Z]";
    static final String TERM = "(?:[0-9]{1,3}|[a-z])";
    static final String SUM = TERM + "(?:[-+*]" + TERM + ")*";
    static final String NAMES = NAME + "(?:\\|" + NAME + ")*";
    static final String COUNT = "(?:" + SUM + "|\\*|![0-9]{1,3}|\\?" + SUM + ")";
    static final String TYPE = "b|w|W|r" + NAME + "|n[0-9]|s\\(" + SUM + "\\)|z|" + NAMES + "(?:\\[" + COUNT + "\\])?";
    static final String RELATION = "[0-9]{1,3}|[#%+^][a-z]";
    static final Pattern FIELD = Pattern.compile("([a-z]):(" + TYPE + ")(?:=(" + RELATION + "))?;");
    static final Pattern STRUCTURE = Pattern.compile("(" + NAME + ")\\{((?:[a-z]:(?:" + TYPE + ")(?:=(?:" + RELATION + "))?;)*)\\}");

    static final class Field {
        char name;
        String type;
        String relation;
        char first() { return type.charAt(0); }
        boolean isArray() { return type.endsWith("]"); }
        boolean isNames() { return Character.isUpperCase(first()) && first() != 'W'; }
        boolean isNumeric() { return "bwWrn".indexOf(first()) >= 0; }
        String[] names() { return (isArray() ? type.substring(0, type.indexOf('[')) : type).split("\\|"); }
        String inside() { return type.substring(type.indexOf(isArray() ? '[' : '(') + 1, type.length() - 1); }
    }

    static final class Struct {
        char name;
        List<Field> fields = new ArrayList<>();
        Field field(char wanted) {
            for (Field f : fields) if (f.name == wanted) return f;
            return null;
        }
    }

    static final class Form {
        int rank;
        List<Struct> structs = new ArrayList<>();
        Struct struct(char wanted) {
            for (Struct s : structs) if (s.name == wanted) return s;
            return null;
        }
    }

    static Form parse(String text) {
        Form form = new Form();
        Matcher m = STRUCTURE.matcher(text);
        int at = 0;
        while (at < text.length()) {
            m.region(at, text.length());
            if (!m.lookingAt()) return null;
            Struct s = new Struct();
            s.name = m.group(1).charAt(0);
            if (form.struct(s.name) != null) return null;
            Matcher f = FIELD.matcher(m.group(2));
            while (f.find()) {
                Field field = new Field();
                field.name = f.group(1).charAt(0);
                field.type = f.group(2);
                field.relation = f.group(3);
                if (s.field(field.name) != null) return null;
                s.fields.add(field);
            }
            form.structs.add(s);
            at = m.end();
        }
        if (form.structs.isEmpty() || form.structs.size() > 6) return null;
        for (Struct s : form.structs) if (!stands(form, s)) return null;
        return form;
    }

    static boolean stands(Form form, Struct s) {
        if (s.fields.size() > 8) return false;
        int bits = 0;
        Set<Character> numbers = new HashSet<>();
        for (Field f : s.fields) {
            if (f.first() == 'n') {
                int n = f.type.charAt(1) - '0';
                if (n < 1 || n > 8 || bits + n > 8) return false;
                bits = (bits + n) % 8;
            } else if (bits != 0) {
                return false;
            }
            if (f.first() == 'r' && form.struct(f.type.charAt(1)) == null) return false;
            if (f.isNames()) for (String n : f.names()) if (form.struct(n.charAt(0)) == null) return false;
            if (f.first() == 's' || f.isArray()) {
                for (char c : f.inside().toCharArray()) {
                    if (Character.isLowerCase(c) && !numbers.contains(c)) return false;
                }
            }
            if (f.isNumeric()) numbers.add(f.name);
            if (f.relation != null) {
                if ("bwW".indexOf(f.first()) < 0) return false;
                if (!Character.isDigit(f.relation.charAt(0))) {
                    Field other = s.field(f.relation.charAt(1));
                    if (other == null || other == f) return false;
                    if (f.relation.charAt(0) == '%' && !other.isArray()) return false;
                }
            }
        }
        return bits == 0;
    }

    static final class Node {
        int kind, name, offset, length, value;
        Node parent;
        Field field;
        Struct struct;
        List<Node> in = new ArrayList<>();

        void all(List<Node> list) {
            list.add(this);
            for (Node n : in) n.all(list);
        }

        boolean has(Node other) {
            for (Node n = other; n != null; n = n.parent) if (n == this) return true;
            return false;
        }
    }

    static final class Fault extends Exception {
        private static final long serialVersionUID = 1;
        final int kind;
        final int at;
        Fault(int kind, int at) {
            super(null, null, false, false);
            this.kind = kind;
            this.at = at;
        }
    }

    /** One reading of bytes. */
    static final class Reading {
        final Form form;
        final int[] bytes;
        int at;
        int made = 0;
        int bit = 0;

        Reading(Form form, int[] bytes) {
            this.form = form;
            this.bytes = bytes;
        }

        Node make(int kind, int name, Node parent, int at) throws Fault {
            made++;
            if (made > 200) throw new Fault(5, at);
            Node n = new Node();
            n.kind = kind;
            n.name = name;
            n.offset = at;
            n.parent = parent;
            if (parent != null) parent.in.add(n);
            return n;
        }

        Node struct(Struct s, Field owner, Node parent, int depth) throws Fault {
            if (depth > 5) throw new Fault(4, at);
            Node n = make(0, owner == null ? s.name - 'A' : owner.name - 'a', parent, at);
            n.value = s.name - 'A';
            n.field = owner;
            n.struct = s;
            Map<Character, Integer> told = new HashMap<>();
            for (Field f : s.fields) field(f, n, told, depth);
            n.length = at - n.offset;
            return n;
        }

        void names(Field f, Field owner, Node parent, int depth) throws Fault {
            int start = at;
            int size = parent.in.size();
            Fault last = null;
            for (String name : f.names()) {
                try {
                    struct(form.struct(name.charAt(0)), owner, parent, depth);
                    return;
                } catch (Fault fault) {
                    if (fault.kind == 5) throw fault;
                    last = fault;
                    at = start;
                    bit = 0;
                    while (parent.in.size() > size) parent.in.remove(size);
                }
            }
            throw last;
        }

        void field(Field f, Node parent, Map<Character, Integer> told, int depth) throws Fault {
            if (f.isArray()) array(f, parent, told, depth);
            else if (f.isNames()) names(f, f, parent, depth + 1);
            else plain(f, parent, told);
        }

        void plain(Field f, Node parent, Map<Character, Integer> told) throws Fault {
            int start = at;
            int length = 1;
            int value;
            char c = f.first();
            int kind = c == 's' || c == 'z' ? 5 : c == 'r' ? 3 : c == 'n' ? 4 : 2;
            Node n = make(kind, f.name - 'a', parent, start);
            n.field = f;
            if (c == 's') {
                length = sum(f.inside(), told);
                if (length < 0 || length > 100) throw new Fault(3, start);
                if (length > 0 && start + length > bytes.length) throw new Fault(1, start);
                value = length == 0 ? -1 : bytes[start];
            } else if (c == 'z') {
                int end = start;
                while (end < bytes.length && bytes[end] != 0) end++;
                if (end >= bytes.length) throw new Fault(1, start);
                length = end - start + 1;
                value = bytes[start];
            } else if (c == 'w' || c == 'W') {
                length = 2;
                if (start + 2 > bytes.length) throw new Fault(1, start);
                value = c == 'w' ? bytes[start] + 256 * bytes[start + 1] : 256 * bytes[start] + bytes[start + 1];
            } else {
                if (start >= bytes.length) throw new Fault(1, start);
                value = bytes[start];
                if (c == 'n') {
                    int bits = f.type.charAt(1) - '0';
                    String all = String.format("%8s", Integer.toBinaryString(value)).replace(' ', '0');
                    value = Integer.parseInt(all.substring(bit, bit + bits), 2);
                }
            }
            if (f.relation != null && Character.isDigit(f.relation.charAt(0)) && value != Integer.parseInt(f.relation)) {
                throw new Fault(2, start);
            }
            n.length = length;
            n.value = value;
            if (f.isNumeric()) told.put(f.name, value);
            if (c == 'n') {
                bit += f.type.charAt(1) - '0';
                if (bit == 8) {
                    bit = 0;
                    at++;
                }
            } else {
                at += length;
            }
        }

        void array(Field f, Node parent, Map<Character, Integer> told, int depth) throws Fault {
            int start = at;
            String in = f.inside();
            char way = in.charAt(0);
            Node n = make(1, f.name - 'a', parent, start);
            n.field = f;
            int count = -1;
            if (way == '?') {
                count = sum(in.substring(1), told) == 0 ? 0 : 1;
            } else if (way != '*' && way != '!') {
                count = sum(in, told);
                if (count < 0 || count > 20) throw new Fault(3, start);
            }
            if (way == '*') {
                while (true) {
                    int before = at;
                    int size = n.in.size();
                    try {
                        names(f, null, n, depth + 1);
                    } catch (Fault fault) {
                        if (fault.kind == 5) throw fault;
                        at = before;
                    }
                    if (at == before) {
                        while (n.in.size() > size) n.in.remove(size);
                        break;
                    }
                }
            } else if (way == '!') {
                int end = Integer.parseInt(in.substring(1));
                while (true) {
                    if (at >= bytes.length) throw new Fault(1, start);
                    if (bytes[at] == end) break;
                    int before = at;
                    names(f, null, n, depth + 1);
                    if (at == before) throw new Fault(1, start);
                }
            } else {
                for (int k = 0; k < count; k++) names(f, null, n, depth + 1);
            }
            n.value = n.in.size();
            n.length = at - start;
        }

        static int sum(String text, Map<Character, Integer> told) {
            Matcher m = Pattern.compile("([-+*]?)(" + TERM + ")").matcher(text);
            long total = 0;
            while (m.find()) {
                String term = m.group(2);
                long t = Character.isDigit(term.charAt(0)) ? Long.parseLong(term) : told.get(term.charAt(0));
                switch (m.group(1)) {
                    case "-": total -= t; break;
                    case "*": total *= t; break;
                    default: total += t;
                }
                if (total > 99999) total = 99999;
                if (total < -99999) total = -99999;
            }
            return (int) total;
        }
    }

    static List<Node> read(Form form, int[] bytes, char name, int offset) throws Fault {
        Reading r = new Reading(form, bytes);
        r.at = offset;
        List<Node> all = new ArrayList<>();
        r.struct(form.struct(name), null, null, 0).all(all);
        return all;
    }

    static List<Node> read(Form form, int[] bytes) throws Fault {
        return read(form, bytes, form.structs.get(0).name, 0);
    }

    static char relation(Node n) {
        if (n.field == null || n.kind == 0 || n.field.relation == null) return ' ';
        char c = n.field.relation.charAt(0);
        return Character.isDigit(c) ? '=' : c;
    }

    static Node other(Node n) {
        for (Node m : n.parent.in) if (m.field.name == n.field.relation.charAt(1)) return m;
        throw new AssertionError();
    }

    static int due(Node n, int[] bytes) {
        if (relation(n) == '=') return Integer.parseInt(n.field.relation);
        Node other = other(n);
        int all = 0;
        switch (relation(n)) {
            case '#': all = other.length; break;
            case '%': all = other.value; break;
            case '+': for (int k = 0; k < other.length; k++) all += bytes[other.offset + k]; break;
            default: for (int k = 0; k < other.length; k++) all ^= bytes[other.offset + k];
        }
        return n.length == 1 ? all % 256 : all % 65536;
    }

    static int wrongs(List<Node> all, int[] bytes) {
        int count = 0;
        for (Node n : all) if (relation(n) != ' ' && n.value != due(n, bytes)) count++;
        return count;
    }

    // ---- the face

    final List<Integer> tape = new ArrayList<>();
    final List<Form> forms = new ArrayList<>();
    final List<int[]> files = new ArrayList<>();
    final List<Integer> parents = new ArrayList<>();
    int[] file = {};
    int now = -1;

    private static void refuse(boolean is) {
        if (is) throw new IllegalStateException();
    }

    private static void argument(boolean is) {
        if (is) throw new IllegalArgumentException();
    }

    private static void index(boolean is) {
        if (is) throw new IndexOutOfBoundsException();
    }

    public int feed(long bytes, int n) {
        argument(n < 1 || n > 8);
        refuse(tape.size() + n > 200);
        for (int k = 0; k < n; k++) {
            tape.add((int) (bytes & 255));
            bytes >>= 8;
        }
        return tape.size();
    }

    private int keep(int[] bytes) {
        files.add(bytes);
        parents.add(now);
        now = files.size() - 1;
        file = bytes;
        return now;
    }

    public int give() {
        int[] all = tape.stream().mapToInt(k -> k).toArray();
        tape.clear();
        refuse(files.size() == 30 || all.length > 160);
        return keep(all);
    }

    public int template(int rank) {
        argument(rank < 0 || rank > 9);
        StringBuilder text = new StringBuilder();
        for (int b : tape) text.append((char) b);
        tape.clear();
        Form form = parse(text.toString());
        refuse(form == null || forms.size() == 4);
        form.rank = rank;
        forms.add(form);
        return forms.size() - 1;
    }

    public int size() {
        return file.length;
    }

    public int byteAt(int place) {
        index(place < 0 || place >= file.length);
        return file[place];
    }

    public int state() {
        return now;
    }

    public int parent(int state) {
        index(state < 0 || state >= files.size());
        return parents.get(state);
    }

    public int goTo(int state) {
        index(state < 0 || state >= files.size());
        now = state;
        file = files.get(state);
        return file.length;
    }

    public int chosen() {
        int best = -1;
        for (int k = 0; k < forms.size(); k++) {
            if (fault(k, false) == 0 && (best == -1 || forms.get(k).rank > forms.get(best).rank)) best = k;
        }
        return best;
    }

    public int fault(int template, boolean isOffset) {
        index(template < 0 || template >= forms.size());
        try {
            read(forms.get(template), file);
            return isOffset ? -1 : 0;
        } catch (Fault f) {
            return isOffset ? f.at : f.kind;
        }
    }

    private List<Node> all() {
        int c = chosen();
        try {
            return c == -1 ? new ArrayList<>() : read(forms.get(c), file);
        } catch (Fault f) {
            throw new AssertionError(f);
        }
    }

    private Node at(List<Node> all, int node) {
        index(node < 0 || node >= all.size());
        return all.get(node);
    }

    public int nodes() {
        return all().size();
    }

    public int node(int node, int what) {
        List<Node> all = all();
        Node n = at(all, node);
        argument(what < 0 || what > 6);
        return new int[] {n.kind, n.name, n.offset, n.length, n.value, all.indexOf(n.parent),
            relation(n) == ' ' || due(n, file) == n.value ? 1 : 0}[what];
    }

    public int wrong() {
        return wrongs(all(), file);
    }

    public int wrongByAll() {
        return wrong();
    }

    public int follow(int node) {
        Node n = at(all(), node);
        refuse(n.kind != 3);
        try {
            return read(forms.get(chosen()), file, n.field.type.charAt(1), n.value).get(0).length;
        } catch (Fault f) {
            return -1;
        }
    }

    public int chain(int node) {
        Node n = at(all(), node);
        refuse(n.kind != 3);
        Form form = forms.get(chosen());
        Set<String> been = new HashSet<>();
        int count = 0;
        while (true) {
            if (!been.add(n.field.type + n.value)) return -2;
            Node top;
            try {
                top = read(form, file, n.field.type.charAt(1), n.value).get(0);
            } catch (Fault f) {
                return count;
            }
            count++;
            n = null;
            for (Node m : top.in) if (m.kind == 3 && n == null) n = m;
            if (n == null) return count;
        }
    }

    public int find(int value, int mask, int from) {
        argument(value < 0 || value > 255 || mask < 0 || mask > 255 || from < 0 || from > 200);
        for (int k = from; k < file.length; k++) if (((file[k] ^ value) & mask) == 0) return k;
        return -1;
    }

    public int findField(int name, int value, int from) {
        argument(name < 0 || name > 25 || value < 0 || value > 65535 || from < 0 || from > 200);
        List<Node> all = all();
        for (int k = from; k < all.size(); k++) {
            Node n = all.get(k);
            if (n.kind >= 2 && n.kind <= 4 && n.name == name && n.value == value) return k;
        }
        return -1;
    }

    // ---- edits

    private static void put(int[] bytes, Node n, int value, int bitsAhead) {
        switch (n.field.first()) {
            case 'w':
                bytes[n.offset] = value % 256;
                bytes[n.offset + 1] = value / 256;
                break;
            case 'W':
                bytes[n.offset] = value / 256;
                bytes[n.offset + 1] = value % 256;
                break;
            case 'n':
                int bits = n.field.type.charAt(1) - '0';
                for (int k = 0; k < bits; k++) {
                    int place = 7 - bitsAhead - k;
                    bytes[n.offset] &= ~(1 << place);
                    bytes[n.offset] |= (value >> (bits - 1 - k) & 1) << place;
                }
                break;
            default:
                bytes[n.offset] = value;
        }
    }

    private static int bitsAhead(Node n) {
        int bits = 0;
        for (Node m : n.parent.in) {
            if (m == n) return bits;
            bits = m.kind == 4 ? (bits + m.field.type.charAt(1) - '0') % 8 : 0;
        }
        return bits;
    }

    private int finish(Form form, int[] work) {
        refuse(files.size() == 30 || work.length > 160);
        try {
            List<Node> all = read(form, work);
            int rounds = 0;
            while (true) {
                List<Node> wrong = new ArrayList<>();
                for (Node n : all) {
                    if ((relation(n) == '#' || relation(n) == '%') && n.value != due(n, work)) wrong.add(n);
                }
                if (wrong.isEmpty()) break;
                refuse(rounds == 4);
                for (Node n : wrong) {
                    refuse(n.length == 1 && due(n, work) > 255);
                    put(work, n, due(n, work), 0);
                }
                rounds++;
                all = read(form, work);
            }
            List<Node> left = new ArrayList<>();
            for (Node n : all) if (relation(n) == '+' || relation(n) == '^') left.add(n);
            while (!left.isEmpty()) {
                Node next = null;
                for (Node n : left) {
                    boolean isReady = true;
                    for (Node m : left) if (other(n).has(m)) isReady = false;
                    if (isReady && next == null) next = n;
                }
                refuse(next == null);
                put(work, next, due(next, work), 0);
                left.remove(next);
            }
            refuse(wrongs(read(form, work), work) > 0);
        } catch (Fault f) {
            throw new IllegalStateException(f);
        }
        return keep(work);
    }

    public int set(int node, int value) {
        Node n = at(all(), node);
        refuse(n.kind < 2 || n.kind > 4 || relation(n) != ' ');
        int bits = n.kind == 4 ? n.field.type.charAt(1) - '0' : n.length * 8;
        refuse(value < 0 || value >= 1 << bits);
        int[] work = file.clone();
        put(work, n, value, bitsAhead(n));
        return finish(forms.get(chosen()), work);
    }

    /** Puts bytes in (k above 0) or takes them out; the bytes put in are made from those that are there. */
    private int change(Node owner, int place, int k, int elements, boolean isDoubled, int value) {
        int[] work = file.clone();
        for (Node n : all()) {
            if (n.kind == 3) {
                int v = n.value;
                if (k >= 0) v = v >= place ? v + k : v;
                else if (v >= place - k) v += k;
                else if (v > place) v = place;
                refuse(v > 255);
                put(work, n, v, 0);
            }
            if (relation(n) == '#' && sameIn(other(n), owner)) {
                refuse(n.length == 1 && other(n).length + k > 255);
                put(work, n, other(n).length + k, 0);
            }
            if (relation(n) == '%' && same(other(n), owner)) put(work, n, other(n).value + elements, 0);
        }
        List<Integer> bytes = new ArrayList<>();
        for (int b : work) bytes.add(b);
        if (k < 0) for (int j = 0; j < -k; j++) bytes.remove(place);
        if (isDoubled) bytes.addAll(place, new ArrayList<>(bytes.subList(place - k, place)));
        else if (k > 0) bytes.add(place, value);
        return finish(forms.get(chosen()), bytes.stream().mapToInt(b -> b).toArray());
    }

    /** Nodes of two readings of one file are the same if they are so at the same offset of the same field. */
    private static boolean same(Node a, Node b) {
        if (a == null || b == null) return a == b;
        int i = a.parent == null ? 0 : a.parent.in.indexOf(a);
        int j = b.parent == null ? 0 : b.parent.in.indexOf(b);
        return i == j && same(a.parent, b.parent);
    }

    private static boolean sameIn(Node outer, Node inner) {
        for (Node n = inner; n != null; n = n.parent) if (same(outer, n)) return true;
        return false;
    }

    public int insert(int node, int place, int value) {
        Node n = at(all(), node);
        argument(value < 0 || value > 255);
        refuse(n.kind != 5);
        boolean isEnded = n.field.first() == 'z';
        refuse(place < 0 || place > n.length - (isEnded ? 1 : 0) || isEnded && value == 0);
        return change(n, n.offset + place, 1, 0, false, value);
    }

    public int remove(int node, int place) {
        Node n = at(all(), node);
        refuse(n.kind != 5);
        refuse(place < 0 || place >= n.length - (n.field.first() == 'z' ? 1 : 0));
        return change(n, n.offset + place, -1, 0, false, 0);
    }

    public int element(int node, int place, boolean isDoubled) {
        Node n = at(all(), node);
        refuse(n.kind != 1 || place < 0 || place >= n.in.size());
        Node e = n.in.get(place);
        return isDoubled ? change(n, e.offset + e.length, e.length, 1, true, 0)
            : change(n, e.offset, -e.length, -1, false, 0);
    }

    public int repair() {
        refuse(chosen() == -1);
        return finish(forms.get(chosen()), file.clone());
    }

    // ---- patches

    private int[] hunk(int[] a, int[] b) {
        int start = 0;
        while (start < a.length && start < b.length && a[start] == b[start]) start++;
        int i = a.length;
        int j = b.length;
        while (i > start && j > start && a[i - 1] == b[j - 1]) {
            i--;
            j--;
        }
        return new int[] {start, i - start, j - start};
    }

    public int hunk(int from, int to, int what) {
        index(from < 0 || from >= files.size() || to < 0 || to >= files.size());
        argument(what < 0 || what > 2);
        return hunk(files.get(from), files.get(to))[what];
    }

    public int patch(int from, int to) {
        index(from < 0 || from >= files.size() || to < 0 || to >= files.size());
        int[] a = files.get(from);
        int[] b = files.get(to);
        int[] h = hunk(a, b);
        int low = Math.max(0, h[0] - 2);
        int high = Math.min(a.length, h[0] + h[1] + 2);
        int best = -1;
        for (int q = 0; q + high - low <= file.length; q++) {
            boolean fits = true;
            for (int k = low; k < high; k++) if (file[q + k - low] != a[k]) fits = false;
            if (fits && (best == -1 || Math.abs(q - low) < Math.abs(best - low))) best = q;
        }
        refuse(best == -1);
        int at = best + h[0] - low;
        int[] made = new int[file.length - h[1] + h[2]];
        refuse(made.length > 160 || files.size() == 30);
        for (int k = 0; k < made.length; k++) {
            made[k] = k < at ? file[k] : k < at + h[2] ? b[h[0] + k - at] : file[k - h[2] + h[1]];
        }
        return keep(made);
    }
}
