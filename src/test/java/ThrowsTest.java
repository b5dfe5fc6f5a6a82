/** What each call throws, which one of several, and that a call that throws changes nothing else than told. */
public final class ThrowsTest {
    private static final int MIN = Integer.MIN_VALUE, MAX = Integer.MAX_VALUE;
    private static final String FORM = "F{m:b;r:rG;n:b=#s;s:s(n);z:z;i:n3;j:n5;a:G[*];}G{x:b;}";
    // the nodes: 0 the file, 1 m, 2 r, 3 n, 4 s, 5 z, 6 i, 7 j, 8 a, 9 and 11 elements, 10 and 12 their x
    private static final int[] FILE = {1, 4, 2, 8, 9, 7, 0, 0x25, 5, 6};

    public static void main(String[] args) {
        feed();
        give();
        template();
        places();
        states();
        faults();
        nodes();
        references();
        searches();
        set();
        insert();
        remove();
        element();
        repair();
        patches();
        atThirty();
        Check.end();
    }

    /** A template, two states, and three bytes on the tape. */
    private static HexTemplates some() {
        HexTemplates x = Check.with(FORM, 3, 3, 3);
        Check.give(x, FILE);
        Check.feed(x, 11, 12, 13);
        return x;
    }

    private static HexTemplates someWithoutTape() {
        HexTemplates x = Check.with(FORM, 3, 3, 3);
        Check.give(x, FILE);
        return x;
    }

    private static HexTemplates someWithTape(int bytes) {
        HexTemplates x = someWithoutTape();
        Check.feed(x, Check.many(bytes));
        return x;
    }

    private static HexTemplates someWithTape(String text) {
        HexTemplates x = someWithoutTape();
        Check.feed(x, text);
        return x;
    }

    private static HexTemplates full() {
        HexTemplates x = Check.with(FORM, FILE);
        for (int k = 1; k < 30; k++) {
            Check.feed(x, FILE);
            x.give();
        }
        return x;
    }

    private static HexTemplates fullWithTape() {
        HexTemplates x = full();
        Check.feed(x, 1, 2, 3);
        return x;
    }

    private static HexTemplates fourTemplates(String text) {
        HexTemplates x = Check.with(FORM, FILE);
        for (int k = 0; k < 3; k++) {
            Check.template(x, "F{a:b;b:b=9;}", k);
        }
        Check.feed(x, text);
        return x;
    }

    private static HexTemplates withoutTemplate() {
        HexTemplates x = new HexTemplates();
        Check.give(x, 1, 2, 3);
        return x;
    }

    private static void feed() {
        for (int n : new int[] {MIN, -8, -1, 0, 9, 10, 64, MAX}) {
            Check.argument("2 feed n " + n, ThrowsTest::some, x -> x.feed(1, n));
            Check.argument("2 feed n " + n + " on a full tape", () -> someWithTape(200), x -> x.feed(1, n));
        }
        for (int n = 1; n <= 8; n++) {
            int bytes = n;
            Check.state("2 feed " + n + " to 201", () -> someWithTape(201 - bytes), x -> x.feed(1, bytes));
            Check.due("2 feed " + n + " to 200", someWithTape(200 - bytes).feed(1, bytes), 200);
            Check.due("2 feed " + n + " to 199", someWithTape(199 - bytes).feed(1, bytes), 199);
            Check.state("2 feed " + n + " to a full tape", () -> someWithTape(200), x -> x.feed(1, bytes));
        }
    }

    private static void give() {
        for (int bytes : new int[] {161, 162, 199, 200}) {
            Check.unchanged("3 give of " + bytes, IllegalStateException.class, () -> someWithTape(bytes),
                HexTemplates::give, ThrowsTest::someWithoutTape);
        }
        Check.due("3 give of 160", someWithTape(160).give(), 2);
        Check.due("3 give of 159", someWithTape(159).give(), 2);
        Check.unchanged("3 give at 30", IllegalStateException.class, ThrowsTest::fullWithTape,
            HexTemplates::give, ThrowsTest::full);
        Check.unchanged("3 give of none at 30", IllegalStateException.class, ThrowsTest::full,
            HexTemplates::give, ThrowsTest::full);
    }

    private static void template() {
        for (int rank : new int[] {MIN, -1, 10, 11, MAX}) {
            Check.argument("4 template rank " + rank, () -> someWithTape("F{a:b;}"), x -> x.template(rank));
            Check.argument("4 none, rank " + rank, ThrowsTest::some, x -> x.template(rank));
            Check.argument("4 a fifth, rank " + rank, () -> fourTemplates("F{}"), x -> x.template(rank));
        }
        for (String none : new String[] {"", "F", "F{", "F{a:b;b:n7;}", "F{a:b;b:A;}", "F{a:b=%b;b:b;}", "F{}F{}"}) {
            Check.unchanged("4 template " + none, IllegalStateException.class, () -> someWithTape(none),
                x -> x.template(0), ThrowsTest::someWithoutTape);
        }
        Check.unchanged("4 a fifth template", IllegalStateException.class, () -> fourTemplates("F{a:b;}"),
            x -> x.template(9), () -> fourTemplates(""));
        Check.unchanged("4 a fifth that is none", IllegalStateException.class, () -> fourTemplates("F{a:b}"),
            x -> x.template(9), () -> fourTemplates(""));
        Check.unchanged("4 a fifth of no bytes", IllegalStateException.class, () -> fourTemplates(""),
            x -> x.template(9), () -> fourTemplates(""));
        HexTemplates x = new HexTemplates();
        for (int k = 0; k < 4; k++) {
            Check.state("4 none at " + k, () -> Check.template(x, "F{a:b}", 0));
            Check.due("4 template " + k, Check.template(x, "F{}", 3 * k), k);
        }
    }

    private static void places() {
        for (int place : new int[] {MIN, -1, 10, 11, 160, MAX}) {
            Check.index("6 byteAt " + place, ThrowsTest::some, x -> x.byteAt(place));
        }
        Check.due("6 byteAt 0", some().byteAt(0), 1);
        Check.due("6 byteAt 9", some().byteAt(9), 6);
        Check.index("6 byteAt 0 of a new object", HexTemplates::new, x -> x.byteAt(0));
        HexTemplates x = Check.with("F{}", Check.many(160));
        Check.due("6 byteAt 159", x.byteAt(159), 1);
        Check.index("6 byteAt 160", () -> x.byteAt(160));
    }

    private static void states() {
        for (int state : new int[] {MIN, -1, 2, 3, 30, MAX}) {
            Check.index("8 parent " + state, ThrowsTest::some, x -> x.parent(state));
            Check.index("9 goTo " + state, ThrowsTest::some, x -> x.goTo(state));
        }
        Check.due("8 parent 1", some().parent(1), 0);
        Check.due("9 goTo 1", some().goTo(1), 10);
        Check.due("9 goTo 0", some().goTo(0), 3);
        Check.index("8 parent 0 of a new object", HexTemplates::new, x -> x.parent(0));
        Check.index("9 goTo 0 of a new object", HexTemplates::new, x -> x.goTo(0));
        Check.index("8 parent 30", ThrowsTest::full, x -> x.parent(30));
        Check.index("9 goTo 30", ThrowsTest::full, x -> x.goTo(30));
        Check.due("8 parent 29", full().parent(29), 28);
        Check.due("9 goTo 29", full().goTo(29), 10);
    }

    private static void faults() {
        for (int template : new int[] {MIN, -1, 1, 2, 3, 4, MAX}) {
            Check.index("11 fault " + template, ThrowsTest::some, x -> x.fault(template, false));
            Check.index("11 its offset " + template, ThrowsTest::some, x -> x.fault(template, true));
        }
        Check.index("11 fault of a new object", HexTemplates::new, x -> x.fault(0, false));
        Check.index("11 fault 4 of four", () -> fourTemplates(""), x -> x.fault(4, true));
        Check.due("11 fault 3 of four", fourTemplates("").fault(3, false), HexTemplates.MAGIC);
    }

    private static void nodes() {
        for (int node : new int[] {MIN, -1, 13, 14, 199, 200, MAX}) {
            for (int what : new int[] {-1, 0, 6, 7}) {
                Check.index("13 node " + node + ", " + what, ThrowsTest::some, x -> x.node(node, what));
            }
        }
        for (int what : new int[] {MIN, -1, 7, 8, MAX}) {
            Check.argument("13 what " + what, ThrowsTest::some, x -> x.node(0, what));
            Check.argument("13 what " + what + " of the last one", ThrowsTest::some, x -> x.node(12, what));
            Check.index("13 what " + what + " of none", ThrowsTest::withoutTemplate, x -> x.node(0, what));
        }
        Check.due("13 the last one", some().node(12, 2), 9);
        Check.index("13 node 0 of a new object", HexTemplates::new, x -> x.node(0, 0));
    }

    private static void references() {
        for (int node : new int[] {MIN, -1, 13, 14, 200, MAX}) {
            Check.index("16 follow " + node, ThrowsTest::some, x -> x.follow(node));
            Check.index("17 chain " + node, ThrowsTest::some, x -> x.chain(node));
        }
        for (int node = 0; node < 13; node++) {
            int one = node;
            if (node != 2) {
                Check.state("16 follow " + node, ThrowsTest::some, x -> x.follow(one));
                Check.state("17 chain " + node, ThrowsTest::some, x -> x.chain(one));
            }
        }
        Check.due("16 follow", some().follow(2), 1);
        Check.due("17 chain", some().chain(2), 1);
        Check.index("16 follow without a template", ThrowsTest::withoutTemplate, x -> x.follow(0));
        Check.index("17 chain without a template", ThrowsTest::withoutTemplate, x -> x.chain(0));
    }

    private static void searches() {
        for (int far : new int[] {MIN, -1, 256, 257, MAX}) {
            Check.argument("18 value " + far, ThrowsTest::some, x -> x.find(far, 255, 0));
            Check.argument("18 mask " + far, ThrowsTest::some, x -> x.find(0, far, 0));
        }
        for (int from : new int[] {MIN, -1, 201, 202, MAX}) {
            Check.argument("18 from " + from, ThrowsTest::some, x -> x.find(0, 0, from));
            Check.argument("19 from " + from, ThrowsTest::some, x -> x.findField(0, 0, from));
            Check.argument("19 from " + from + " without a template", ThrowsTest::withoutTemplate, x -> x.findField(0, 0, from));
        }
        for (int name : new int[] {MIN, -1, 26, 27, MAX}) {
            Check.argument("19 name " + name, ThrowsTest::some, x -> x.findField(name, 0, 0));
        }
        for (int value : new int[] {MIN, -1, 65536, 65537, MAX}) {
            Check.argument("19 value " + value, ThrowsTest::some, x -> x.findField(0, value, 0));
        }
        Check.due("18 on the bounds", some().find(255, 255, 200), HexTemplates.NONE);
        Check.due("18 on the lower ones", some().find(0, 0, 0), 0);
        Check.due("19 on the bounds", some().findField(25, 65535, 200), HexTemplates.NONE);
        Check.due("19 on the lower ones", some().findField(0, 0, 0), HexTemplates.NONE);
    }

    private static void set() {
        for (int node : new int[] {MIN, -1, 13, 14, 200, MAX}) {
            Check.index("20 set " + node, ThrowsTest::some, x -> x.set(node, 1));
            Check.index("20 set " + node + " to what can't be", ThrowsTest::some, x -> x.set(node, -1));
        }
        for (int node : new int[] {0, 3, 4, 5, 8, 9, 11}) {
            Check.state("20 set " + node, ThrowsTest::some, x -> x.set(node, 2));
        }
        for (int value : new int[] {MIN, -1, 256, 257, MAX}) {
            Check.state("20 set b to " + value, ThrowsTest::some, x -> x.set(1, value));
            Check.state("20 set r to " + value, ThrowsTest::some, x -> x.set(2, value));
        }
        for (int value : new int[] {MIN, -1, 8, 9, 255, MAX}) {
            Check.state("20 set n3 to " + value, ThrowsTest::some, x -> x.set(6, value));
        }
        for (int value : new int[] {MIN, -1, 32, 33, 255, MAX}) {
            Check.state("20 set n5 to " + value, ThrowsTest::some, x -> x.set(7, value));
        }
        Check.due("20 set b", some().set(1, 255), 2);
        Check.due("20 set r", some().set(2, 255), 2);
        Check.due("20 set n3", some().set(6, 7), 2);
        Check.due("20 set n5", some().set(7, 31), 2);
        Check.due("20 set x of the last element", some().set(12, 255), 2);
        Check.index("20 set without a template", ThrowsTest::withoutTemplate, x -> x.set(0, 0));
        Check.state("20 refused", () -> Check.with("F{n:b;s:s(n);}", 1, 2), x -> x.set(1, 2));
    }

    private static void insert() {
        for (int node : new int[] {MIN, -1, 13, 14, 200, MAX}) {
            for (int value : new int[] {-1, 0, 256}) {
                Check.index("21 insert " + node + ", " + value, ThrowsTest::some, x -> x.insert(node, 0, value));
            }
        }
        for (int value : new int[] {MIN, -1, 256, 257, MAX}) {
            Check.argument("21 value " + value, ThrowsTest::some, x -> x.insert(4, 0, value));
            Check.argument("21 value " + value + " of no string", ThrowsTest::some, x -> x.insert(1, 0, value));
            Check.argument("21 value " + value + " at no place", ThrowsTest::some, x -> x.insert(5, -1, value));
        }
        for (int node : new int[] {0, 1, 2, 3, 6, 7, 8, 9, 10, 11, 12}) {
            Check.state("21 no string " + node, ThrowsTest::some, x -> x.insert(node, 0, 1));
        }
        for (int place : new int[] {MIN, -1, 3, 4, MAX}) {
            Check.state("21 s place " + place, ThrowsTest::some, x -> x.insert(4, place, 1));
        }
        for (int place : new int[] {MIN, -1, 2, 3, MAX}) {
            Check.state("21 z place " + place, ThrowsTest::some, x -> x.insert(5, place, 1));
        }
        for (int place = 0; place < 2; place++) {
            int one = place;
            Check.state("21 0 in z at " + place, ThrowsTest::some, x -> x.insert(5, one, 0));
            Check.due("21 1 in z at " + place, some().insert(5, place, 1), 2);
            Check.due("21 255 in z at " + place, some().insert(5, place, 255), 2);
        }
        for (int place = 0; place < 3; place++) {
            Check.due("21 0 in s at " + place, some().insert(4, place, 0), 2);
            Check.due("21 255 in s at " + place, some().insert(4, place, 255), 2);
        }
        Check.index("21 without a template", ThrowsTest::withoutTemplate, x -> x.insert(0, 0, 256));
        Check.state("21 refused", () -> Check.with("F{s:s(1);e:b=7;}", 1, 7), x -> x.insert(1, 0, 9));
        Check.state("21 a reference refused", () -> Check.with("F{r:rF;z:z;}", 255, 0), x -> x.insert(2, 0, 9));
    }

    private static void remove() {
        for (int node : new int[] {MIN, -1, 13, 14, 200, MAX}) {
            Check.index("22 remove " + node, ThrowsTest::some, x -> x.remove(node, 0));
            Check.index("22 remove " + node + " at no place", ThrowsTest::some, x -> x.remove(node, -1));
        }
        for (int node : new int[] {0, 1, 2, 3, 6, 7, 8, 9, 10, 11, 12}) {
            Check.state("22 no string " + node, ThrowsTest::some, x -> x.remove(node, 0));
        }
        for (int place : new int[] {MIN, -1, 2, 3, MAX}) {
            Check.state("22 s place " + place, ThrowsTest::some, x -> x.remove(4, place));
        }
        for (int place : new int[] {MIN, -1, 1, 2, MAX}) {
            Check.state("22 z place " + place, ThrowsTest::some, x -> x.remove(5, place));
        }
        Check.due("22 s first", some().remove(4, 0), 2);
        Check.due("22 s last", some().remove(4, 1), 2);
        Check.due("22 z", some().remove(5, 0), 2);
        Check.index("22 without a template", ThrowsTest::withoutTemplate, x -> x.remove(0, 0));
        Check.state("22 refused", () -> Check.with("F{s:s(1);e:b=7;}", 1, 7), x -> x.remove(1, 0));
    }

    private static void element() {
        for (boolean isDoubled : new boolean[] {true, false}) {
            for (int node : new int[] {MIN, -1, 13, 14, 200, MAX}) {
                Check.index("23 element " + node, ThrowsTest::some, x -> x.element(node, 0, isDoubled));
                Check.index("23 element " + node + " at no place", ThrowsTest::some, x -> x.element(node, -1, isDoubled));
            }
            for (int node : new int[] {0, 1, 2, 3, 4, 5, 6, 7, 9, 10, 11, 12}) {
                Check.state("23 no array " + node, ThrowsTest::some, x -> x.element(node, 0, isDoubled));
            }
            for (int place : new int[] {MIN, -1, 2, 3, MAX}) {
                Check.state("23 place " + place, ThrowsTest::some, x -> x.element(8, place, isDoubled));
            }
            Check.due("23 first", some().element(8, 0, isDoubled), 2);
            Check.due("23 last", some().element(8, 1, isDoubled), 2);
            Check.index("23 without a template", ThrowsTest::withoutTemplate, x -> x.element(0, 0, isDoubled));
            Check.state("23 refused", () -> Check.with("F{a:A[1];e:b=7;}A{x:b;}", 1, 7), x -> x.element(1, 0, isDoubled));
        }
        // the fields of a structure are no elements, and those of an element neither: also where the rest would fit
        HexTemplates y = Check.with("F{a:b;b:G[*];}G{x:b;y:H[*];}H{x:b=1;}", 2, 3, 1, 1, 4);
        Check.due("23 what it has", y.nodes(), 13);
        for (int node : new int[] {0, 1, 3, 4, 6, 7, 10, 11}) {
            Check.state("23 no array " + node + ", taken out", () -> y.element(node, 0, false));
            Check.state("23 no array " + node + ", doubled", () -> y.element(node, 0, true));
        }
        Check.due("23 nothing is done", y.state(), 0);
        Check.state("23 a reference refused", () -> Check.with("F{r:rF;a:A[*];}A{x:b;}", 255, 0),
            x -> x.element(2, 0, true));
    }

    private static void repair() {
        Check.state("24 of a new object", HexTemplates::new, HexTemplates::repair);
        Check.state("24 without a template", ThrowsTest::withoutTemplate, HexTemplates::repair);
        Check.state("24 no template fits", () -> Check.with("F{a:w;}", 1), HexTemplates::repair);
        Check.state("24 refused by a fault", () -> Check.with("F{n:b=#t;s:s(n);t:s(3);}", 0, 1, 2, 3), HexTemplates::repair);
        Check.state("24 refused by lengths", () -> Check.with("F{n:b=#s;s:s(n+1);}", Check.many(20, 3)), HexTemplates::repair);
        Check.state("24 refused by sums", () -> Check.with("F{a:b=+b;b:b=+a;}", 3, 3), HexTemplates::repair);
        Check.due("24 not refused", some().repair(), 2);
    }

    private static void patches() {
        int[][] noStates = {{-1, 0}, {2, 0}, {0, -1}, {0, 2}, {-1, -1}, {2, 2}, {MIN, 0}, {MAX, 0}, {0, MIN}, {0, MAX}};
        for (int[] two : noStates) {
            for (int what : new int[] {-1, 0, 2, 3}) {
                Check.index("25 hunk " + two[0] + ", " + two[1] + ", " + what, ThrowsTest::some,
                    x -> x.hunk(two[0], two[1], what));
            }
            Check.index("26 patch " + two[0] + ", " + two[1], ThrowsTest::some, x -> x.patch(two[0], two[1]));
            Check.index("26 patch " + two[0] + ", " + two[1] + " of none", HexTemplates::new, x -> x.patch(two[0], two[1]));
        }
        for (int what : new int[] {MIN, -1, 3, 4, MAX}) {
            Check.argument("25 hunk what " + what, ThrowsTest::some, x -> x.hunk(0, 1, what));
        }
        Check.state("26 does not fit", ThrowsTest::some, x -> x.patch(0, 1));
        Check.due("26 fits", some().patch(1, 0), 2);
        Check.state("26 161 bytes", ThrowsTest::long160, x -> x.patch(0, 1));
        Check.due("26 159 bytes", long160().patch(1, 0), 3);
        Check.due("26 160 bytes", long160().patch(0, 0), 3);
    }

    private static HexTemplates long160() {
        HexTemplates x = Check.with(FORM, 1);
        Check.give(x, 1, 1);
        Check.give(x, Check.many(160));
        return x;
    }

    /** At 30 states each edit and patch throws, but what the document lists ahead of that comes first. */
    private static void atThirty() {
        Check.state("20 set at 30", ThrowsTest::full, x -> x.set(1, 5));
        Check.state("21 insert at 30", ThrowsTest::full, x -> x.insert(4, 0, 5));
        Check.state("22 remove at 30", ThrowsTest::full, x -> x.remove(4, 0));
        Check.state("23 element at 30", ThrowsTest::full, x -> x.element(8, 0, true));
        Check.state("23 taken out at 30", ThrowsTest::full, x -> x.element(8, 0, false));
        Check.state("24 repair at 30", ThrowsTest::full, HexTemplates::repair);
        Check.state("26 patch at 30", ThrowsTest::full, x -> x.patch(0, 1));
        Check.index("20 no node at 30", ThrowsTest::full, x -> x.set(13, 5));
        Check.index("21 no node at 30", ThrowsTest::full, x -> x.insert(13, 0, 5));
        Check.argument("21 no value at 30", ThrowsTest::full, x -> x.insert(4, 0, 256));
        Check.index("22 no node at 30", ThrowsTest::full, x -> x.remove(13, 0));
        Check.index("23 no node at 30", ThrowsTest::full, x -> x.element(13, 0, true));
        Check.index("26 no state at 30", ThrowsTest::full, x -> x.patch(30, 0));
        Check.argument("25 no what at 30", ThrowsTest::full, x -> x.hunk(29, 29, 3));
        thirtieth("20 set", x -> x.set(1, 5));
        thirtieth("21 insert", x -> x.insert(4, 0, 5));
        thirtieth("22 remove", x -> x.remove(4, 0));
        thirtieth("23 element", x -> x.element(8, 0, true));
        thirtieth("24 repair", HexTemplates::repair);
        thirtieth("26 patch", x -> x.patch(0, 1));
        thirtieth("3 give", HexTemplates::give);
    }

    /** Each of these makes the 30th state, and not one more, also from an earlier state. */
    private static void thirtieth(String what, Check.Use call) {
        HexTemplates x = Check.with(FORM, FILE);
        for (int k = 1; k < 29; k++) {
            Check.feed(x, FILE);
            x.give();
        }
        x.goTo(7);
        Check.due(what + " makes the 30th state", call.on(x), 29);
        Check.due(what + ": its parent", x.parent(29), 7);
        x.goTo(7);
        Check.state(what + " makes no 31st state", () -> call.on(x));
        Check.due(what + ": one stays there", x.state(), 7);
    }
}
