/** What the tests share: objects with a template and a file, and checks of answers. */
final class Check {
    private static int wrong = 0;

    private Check() {
    }

    interface Call {
        long answer();
    }

    static void due(String what, long got, long want) {
        if (got != want) {
            wrong++;
            System.out.println(what + " answered " + got + ", due is " + want);
        }
    }

    static void index(String what, Call call) {
        refused(what, IndexOutOfBoundsException.class, call);
    }

    static void argument(String what, Call call) {
        refused(what, IllegalArgumentException.class, call);
    }

    static void state(String what, Call call) {
        refused(what, IllegalStateException.class, call);
    }

    private static void refused(String what, Class<?> due, Call call) {
        String got;
        try {
            got = "answered " + call.answer();
        } catch (RuntimeException e) {
            if (e.getClass() == due) {
                return;
            }
            got = "threw " + e.getClass().getSimpleName();
        }
        wrong++;
        System.out.println(what + " " + got + ", due is throws." + due.getSimpleName());
    }

    static void end() {
        if (wrong != 0) {
            System.out.println(wrong + " answers are not as due");
            System.exit(1);
        }
    }

    static void feed(HexTemplates x, int... bytes) {
        for (int b : bytes) {
            x.feed(b, 1);
        }
    }

    static void feed(HexTemplates x, String text) {
        for (char c : text.toCharArray()) {
            x.feed(c, 1);
        }
    }

    static int template(HexTemplates x, String text, int rank) {
        feed(x, text);
        return x.template(rank);
    }

    static int give(HexTemplates x, int... bytes) {
        feed(x, bytes);
        return x.give();
    }

    static HexTemplates with(String template, int... bytes) {
        HexTemplates x = new HexTemplates();
        template(x, template, 1);
        give(x, bytes);
        return x;
    }

    /** The fault and its offset, as 1000 * fault + offset. */
    static int fault(String template, int... bytes) {
        HexTemplates x = with(template, bytes);
        return x.fault(0, false) * 1000 + x.fault(0, true);
    }

    static void file(String what, HexTemplates x, int... bytes) {
        due(what + ": size", x.size(), bytes.length);
        for (int k = 0; k < Math.min(bytes.length, x.size()); k++) {
            due(what + ": byte " + k, x.byteAt(k), bytes[k]);
        }
    }

    /** Kind, name, offset, length, value and parent of a node. */
    static void node(String what, HexTemplates x, int node, int... dues) {
        for (int k = 0; k < dues.length; k++) {
            due(what + ": node(" + node + ", " + k + ")", x.node(node, k), dues[k]);
        }
    }

    static int[] many(int count, int... first) {
        int[] all = new int[count];
        for (int k = 0; k < count; k++) {
            all[k] = k < first.length ? first[k] : 1;
        }
        return all;
    }
}
