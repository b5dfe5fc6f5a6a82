/** What the tests share: objects with a template and a file, and checks of answers. */
final class Check {
    private static int wrong = 0;

    private Check() {
    }

    interface Call {
        long answer();
    }

    interface Maker {
        HexTemplates make();
    }

    interface Use {
        long on(HexTemplates x);
    }

    static void due(String what, long got, long want) {
        if (got != want) {
            wrong++;
            System.out.println(what + " answered " + got + ", due is " + want);
        }
    }

    static void index(String what, Call call) {
        refused(what, IndexOutOfBoundsException.class, call);
    }

    static void argument(String what, Call call) {
        refused(what, IllegalArgumentException.class, call);
    }

    static void state(String what, Call call) {
        refused(what, IllegalStateException.class, call);
    }

    private static void refused(String what, Class<?> due, Call call) {
        String got;
        try {
            got = "answered " + call.answer();
        } catch (RuntimeException e) {
            if (e.getClass() == due) {
                return;
            }
            got = "threw " + e.getClass().getSimpleName();
        }
        wrong++;
        System.out.println(what + " " + got + ", due is throws." + due.getSimpleName());
    }

    static void index(String what, Maker maker, Use call) {
        unchanged(what, IndexOutOfBoundsException.class, maker, call, maker);
    }

    static void argument(String what, Maker maker, Use call) {
        unchanged(what, IllegalArgumentException.class, maker, call, maker);
    }

    static void state(String what, Maker maker, Use call) {
        unchanged(what, IllegalStateException.class, maker, call, maker);
        Maker taped = () -> withTape(maker);
        unchanged(what + ", with a tape", IllegalStateException.class, taped, call, taped);
    }

    private static HexTemplates withTape(Maker maker) {
        HexTemplates x = maker.make();
        try {
            x.feed(0x4241, 2);
        } catch (IllegalStateException e) {
            // the tape is full: what is on it has to stay there all the same
        }
        return x;
    }

    /** A call throws what is due, and all that can be asked for is then as it is of another object. */
    static void unchanged(String what, Class<?> due, Maker maker, Use call, Maker other) {
        HexTemplates x = maker.make();
        refused(what, due, () -> call.on(x));
        String got = all(x);
        String want = all(other.make());
        if (!got.equals(want)) {
            wrong++;
            System.out.println(what + " has changed something:\n  " + got + "\n  due is\n  " + want);
        }
    }

    /** All that can be asked for, the tape too; this edits the object and gives it a file, if it can. */
    static String all(HexTemplates x) {
        StringBuilder text = new StringBuilder();
        tell(text, "state", x::state);
        file(text, x);
        tell(text, "wrong", x::wrong);
        tell(text, "by all", x::wrongByAll);
        for (int k = 0; k < 4; k++) {
            int template = k;
            tell(text, "fault", () -> x.fault(template, false));
            tell(text, "at", () -> x.fault(template, true));
        }
        for (int k = 0; k < Math.min(20, x.nodes()); k++) {
            for (int what = 0; what < 7; what++) {
                text.append(' ').append(x.node(k, what));
            }
        }
        for (int k = 0; k < 30; k++) {
            int state = k;
            tell(text, "parent", () -> x.parent(state));
        }
        tell(text, "hunk", () -> x.hunk(0, 1, 0) * 10000 + x.hunk(0, 1, 1) * 100 + x.hunk(0, 1, 2));
        tell(text, "repair", x::repair);
        file(text, x);
        tell(text, "feed", () -> x.feed(7, 1));
        tell(text, "give", x::give);
        file(text, x);
        return text.toString();
    }

    private static void file(StringBuilder text, HexTemplates x) {
        text.append(" chosen ").append(x.chosen()).append(" nodes ").append(x.nodes()).append(" file");
        for (int k = 0; k < Math.min(20, x.size()); k++) {
            text.append(' ').append(x.byteAt(k));
        }
        text.append(" of ").append(x.size());
    }

    private static void tell(StringBuilder text, String what, Call call) {
        text.append(' ').append(what).append(' ');
        try {
            text.append(call.answer());
        } catch (RuntimeException e) {
            text.append(e.getClass().getSimpleName());
        }
    }

    static void end() {
        if (wrong != 0) {
            System.out.println(wrong + " answers are not as due");
            System.exit(1);
        }
    }

    static void feed(HexTemplates x, int... bytes) {
        for (int b : bytes) {
            x.feed(b, 1);
        }
    }

    static void feed(HexTemplates x, String text) {
        for (char c : text.toCharArray()) {
            x.feed(c, 1);
        }
    }

    static int template(HexTemplates x, String text, int rank) {
        feed(x, text);
        return x.template(rank);
    }

    static int give(HexTemplates x, int... bytes) {
        feed(x, bytes);
        return x.give();
    }

    static HexTemplates with(String template, int... bytes) {
        HexTemplates x = new HexTemplates();
        template(x, template, 1);
        give(x, bytes);
        return x;
    }

    /** The fault and its offset, as 1000 * fault + offset. */
    static int fault(String template, int... bytes) {
        HexTemplates x = with(template, bytes);
        return x.fault(0, false) * 1000 + x.fault(0, true);
    }

    static void file(String what, HexTemplates x, int... bytes) {
        due(what + ": size", x.size(), bytes.length);
        for (int k = 0; k < Math.min(bytes.length, x.size()); k++) {
            due(what + ": byte " + k, x.byteAt(k), bytes[k]);
        }
    }

    /** Kind, name, offset, length, value and parent of a node. */
    static void node(String what, HexTemplates x, int node, int... dues) {
        for (int k = 0; k < dues.length; k++) {
            due(what + ": node(" + node + ", " + k + ")", x.node(node, k), dues[k]);
        }
    }

    static int[] many(int count, int... first) {
        int[] all = new int[count];
        for (int k = 0; k < count; k++) {
            all[k] = k < first.length ? first[k] : 1;
        }
        return all;
    }
}
