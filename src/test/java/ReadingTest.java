/** Promises 10 to 19: templates and faults, nodes and relations, references and searches. */
public final class ReadingTest {
    public static void main(String[] args) {
        chosen();
        faults();
        sums();
        ends();
        tries();
        deep();
        many();
        manyOfFields();
        manyOfArrays();
        manyOfNames();
        manyOfTries();
        manyOrDeep();
        nodes();
        bits();
        relations();
        follow();
        chain();
        find();
        findField();
        Check.end();
    }

    private static void chosen() {
        HexTemplates x = new HexTemplates();
        Check.give(x, 1, 2);
        Check.due("10 none", x.chosen(), HexTemplates.NONE);
        Check.template(x, "F{a:b;}", 3);
        Check.due("10 one", x.chosen(), 0);
        Check.template(x, "F{a:b=2;}", 9);
        Check.due("10 the greatest has a fault", x.chosen(), 0);
        Check.template(x, "F{a:b;b:b;}", 3);
        Check.due("10 the first of two", x.chosen(), 0);
        Check.template(x, "F{a:w;}", 4);
        Check.due("10 the greatest", x.chosen(), 3);
        Check.due("12 its nodes", x.nodes(), 2);
        Check.due("11 of another one", x.fault(1, false), HexTemplates.MAGIC);
        Check.due("12 its nodes still", x.nodes(), 2);
        Check.give(x, 2);
        Check.due("10 of another file", x.chosen(), 1);
        Check.give(x);
        Check.due("10 of an empty file", x.chosen(), HexTemplates.NONE);
        Check.due("12 without a template", x.nodes(), 0);
        Check.index("11 too far", () -> x.fault(4, false));
        Check.index("11 below", () -> x.fault(-1, true));
    }

    private static void faults() {
        Check.due("11 fine", Check.fault("F{a:b;}", 1), -1);
        Check.due("11 bytes left", Check.fault("F{a:b;}", 1, 2, 3), -1);
        Check.due("11 nothing wanted", Check.fault("F{}"), -1);
        Check.due("11 b out", Check.fault("F{a:b;b:b;}", 1), 1001);
        Check.due("11 w out", Check.fault("F{a:b;b:w;}", 1, 2), 1001);
        Check.due("11 W out", Check.fault("F{a:W;}", 1), 1000);
        Check.due("11 r out", Check.fault("F{a:rF;}"), 1000);
        Check.due("11 n out", Check.fault("F{a:n4;b:n4;c:n8;}", 1), 1001);
        Check.due("11 s out", Check.fault("F{a:b;b:s(2);}", 1, 2), 1001);
        Check.due("11 s just in", Check.fault("F{a:b;b:s(2);}", 1, 2, 3), -1);
        Check.due("11 z out", Check.fault("F{a:b;b:z;}", 1, 2, 3), 1001);
        Check.due("11 z in", Check.fault("F{a:b;b:z;}", 1, 2, 0), -1);
        Check.due("11 magic", Check.fault("F{a:b;b:b=7;}", 7, 8), 2001);
        Check.due("11 magic of w", Check.fault("F{a:w=258;}", 2, 1), -1);
        Check.due("11 magic of W", Check.fault("F{a:W=258;}", 2, 1), 2000);
        Check.due("11 magic that can't be", Check.fault("F{a:b=256;}", 0), 2000);
        Check.due("11 out ahead of magic", Check.fault("F{a:w=999;}", 0), 1000);
        Check.due("11 in a structure", Check.fault("F{a:b;b:A;}A{a:b;b:b=1;}", 0, 0, 2), 2002);
        Check.due("11 in an element", Check.fault("F{a:A[3];}A{a:b;b:b;}", 0, 0, 2), 1003);
    }

    private static void sums() {
        Check.due("11 s(100)", Check.fault("F{n:b;s:s(n);}", Check.many(101, 100)), -1);
        Check.due("11 s(101)", Check.fault("F{n:b;s:s(n);}", Check.many(110, 101)), 3001);
        Check.due("11 s(0)", Check.fault("F{n:b;s:s(n);}", 0), -1);
        Check.due("11 s(-1)", Check.fault("F{n:b;s:s(n-1);}", 0, 1), 3001);
        Check.due("11 20 elements", Check.fault("F{n:b;a:A[n];}A{}", 20), -1);
        Check.due("11 21 elements", Check.fault("F{n:b;a:A[n];}A{}", 21), 3001);
        Check.due("11 -1 elements", Check.fault("F{n:b;a:A[n-1];}A{}", 0), 3001);
        Check.due("11 from the left", Check.with("F{n:b;s:s(1+n*2);}", Check.many(40, 3)).node(2, 3), 8);
        Check.due("11 minus", Check.with("F{n:b;s:s(10-n-2*3);}", Check.many(40, 3)).node(2, 3), 15);
        // n is 49995; 999 * 999 is 99999 at once, and so 9 are left
        Check.due("11 brought down", Check.with("F{n:W;s:s(999*999-n-n+70);}", Check.many(90, 195, 75)).node(2, 3), 79);
        // 0 - 999 * 999 is -99999 at once
        Check.due("11 brought up", Check.with("F{n:W;s:s(0-999*999+n+n+19);}", Check.many(90, 195, 75)).node(2, 3), 10);
        Check.due("11 too great for int", Check.fault("F{n:W;s:s(999*999*n);}", Check.many(90, 255, 255)), 3002);
        Check.due("11 ? of 0", Check.with("F{n:b;a:A[?n];}A{x:b;}", 0, 5).nodes(), 3);
        Check.due("11 ? of 5", Check.with("F{n:b;a:A[?n];}A{x:b;}", 5, 5).nodes(), 5);
        Check.due("11 ? below 0", Check.with("F{n:b;a:A[?n-9];}A{x:b;}", 5, 5).node(2, 4), 1);
        Check.due("11 ? out", Check.fault("F{n:b;a:A[?n];}A{x:b;}", 5), 1001);
        Check.due("11 names of all numbers", Check.with("F{a:b;b:w;c:W;d:rF;e:n8;s:s(a+b+c+d+e);}",
            Check.many(90, 1, 2, 0, 0, 3, 4, 5)).node(6, 3), 15);
    }

    private static void ends() {
        HexTemplates x = Check.with("F{a:A[!9];b:b;}A{x:b;y:b;}", 1, 9, 2, 3, 9);
        Check.due("12 nodes to an end", x.nodes(), 9);
        Check.node("13 an array to its end", x, 1, 1, 0, 0, 4, 2, 0);
        Check.node("13 the end is left", x, 8, 2, 1, 4, 1, 9, 0);
        Check.due("11 none to the end", Check.with("F{a:A[!9];}A{x:b;}", 9).node(1, 4), 0);
        Check.due("11 no end", Check.fault("F{c:b;a:A[!9];}A{x:b;}", 0, 1, 2), 1001);
        Check.due("11 the end is no byte", Check.fault("F{c:b;a:A[!256];}A{x:b;}", 0, 1, 2), 1001);
        Check.due("11 an empty element", Check.fault("F{c:b;a:A[!9];}A{}", 0, 1, 9), 1001);
        Check.due("11 an element with a fault", Check.fault("F{c:b;a:A[!9];}A{x:b;y:b=1;}", 0, 1, 2, 9), 2002);
        HexTemplates y = Check.with("F{a:A[*];b:b;}A{x:b=1;y:b;}", 1, 5, 1, 6, 2);
        Check.node("13 an array while it is fine", y, 1, 1, 0, 0, 4, 2, 0);
        Check.node("13 and what is behind", y, 8, 2, 1, 4, 1, 2, 0);
        Check.due("11 * of empty ones", Check.with("F{a:A[*];}A{}", 1).node(1, 4), 0);
        Check.due("11 * out", Check.with("F{a:A[*];}A{x:w;}", 1, 2, 3).node(1, 3), 2);
        Check.due("11 empty first of several", Check.with("F{a:E|A[*];}E{}A{x:b;}", 1).node(1, 4), 0);
    }

    private static void tries() {
        String form = "F{a:A|B|C;}A{x:b=1;y:b;}B{x:b;y:b=2;}C{x:b;y:w;z:b=3;}";
        Check.due("11 the first one", Check.with(form, 1, 2).node(0 + 1, 4), 0);
        Check.due("11 the second one", Check.with(form, 5, 2).node(1, 4), 1);
        Check.due("11 the third one", Check.with(form, 5, 5, 5, 3).node(1, 4), 2);
        Check.due("11 the fault of the last one", Check.fault(form, 5, 5, 5, 5), 2003);
        Check.due("11 its offset", Check.fault(form, 5, 5), 1001);
        HexTemplates x = Check.with("F{a:A|B[2];}A{x:b;y:b=1;}B{x:b;}", 7, 7, 1);
        Check.due("12 what was in vain is no node", x.nodes(), 7);
        Check.node("13 an element of the second one", x, 2, 0, 1, 0, 1, 1, 1);
        Check.node("13 an element of the first one", x, 4, 0, 0, 1, 2, 0, 1);
        HexTemplates y = Check.with("F{a:A|B;b:b;}A{s:b=#t;t:s(1);u:b=1;}B{x:b;}", 7, 7, 7);
        Check.due("15 relations in vain", y.wrongByAll(), 0);
        Check.due("14 relations in vain", y.wrong(), 0);
    }

    private static void deep() {
        String form = "A{n:b;a:A[n];}";
        Check.due("11 in 5 others", Check.fault(form, 1, 1, 1, 1, 1, 0), -1);
        Check.due("11 in 6 others", Check.fault(form, 1, 1, 1, 1, 1, 1, 0), 4006);
        Check.due("11 a field in 6 others", Check.fault("A{n:b;a:A;}", Check.many(20)), 4006);
        Check.due("11 deep ends *", Check.with("A{n:b;a:A[*];}", Check.many(6)).nodes(), 18);
        HexTemplates x = Check.with("A{n:b;a:A|B;}B{x:b;}", Check.many(20));
        // in the deepest A both are too deep: so there B is tried in place of it
        Check.due("11 deep is tried in vain", x.fault(0, false), HexTemplates.FINE);
        Check.node("13 the last A", x, 8, 0, 0, 4, 2, 0, 6);
        Check.node("13 B in it", x, 10, 0, 0, 5, 1, 1, 8);
        Check.due("11 a last deep one", Check.with("F{a:A;}A{a:B;}B{a:C;}C{a:D;}D{a:E[*];}E{a:F[*];}", 1).nodes(), 6);
    }

    private static void many() {
        String form = "F{a:A[*];}A{x:b;}";
        Check.due("12 with a try 199", Check.with(form, Check.many(98)).nodes(), 198);
        Check.due("11 with a try 201", Check.fault(form, Check.many(99)), 5099);
        Check.due("11 an element", Check.fault(form, Check.many(160)), 5099);
        Check.due("11 a field", Check.fault("F{a:A[*];}A{x:b;y:b;z:b;}", Check.many(160)), 5148);
        // 2 nodes, and 5 for each byte: A and its y in vain, and B with x and y in it
        Check.due("11 tries count", Check.fault("F{a:A|B[*];}A{y:b=2;}B{x:b;y:C;}C{}", Check.many(160)), 5039);
        Check.due("11 not for a try", Check.fault("F{a:G|H;}G{a:A[*];}H{}A{x:b;}", Check.many(160)), 5098);
        Check.due("11 20 of 20", Check.fault("F{a:A[20];}A{x:B[20];}B{}", 1), 5000);
        HexTemplates x = Check.with("F{a:A[9];}A{x:B[20];}B{}");
        Check.due("12 200 nodes", x.nodes(), 2 + 9 * 22);
        Check.node("13 the last one", x, 199, 0, 1, 0, 0, 1, 179);
        Check.index("13 behind it", () -> x.node(200, 0));
    }

    /** Looks at the fault of a field x at the offset 1: behind 199 nodes its own one, behind 200 nodes MANY. */
    private static void last(String type, int fault, int... bytes) {
        Check.due("11 behind 199 nodes, " + type, late(19, type, bytes), fault);
        Check.due("11 behind 200 nodes, " + type, late(20, type, bytes), 5001);
    }

    /** The fault of a field x behind 180 nodes and as many elements as told. */
    private static int late(int elements, String type, int... bytes) {
        int[] all = Check.many(bytes.length + 1, elements);
        System.arraycopy(bytes, 0, all, 1, bytes.length);
        return Check.fault("F{h:b;a:A[8];c:B[h];x:" + type + ";}A{x:B[20];}B{}C{y:b=9;}D{y:b;z:w;}", all);
    }

    private static void manyOfFields() {
        last("b", 1001);
        last("w", 1001, 1);
        last("W", 1001, 1);
        last("rB", 1001);
        last("n8", 1001);
        last("n4;y:n4", 1001);
        last("s(2)", 1001, 1);
        last("z", 1001, 1, 2);
        last("b=9", 1001);
        last("b=9", 2001, 8);
        last("w=9", 2001, 9, 9);
        last("W=9", 2001, 9, 9);
        last("s(101)", 3001, Check.many(110));
        last("s(0-1)", 3001, 1);
        last("b", -1, 1);
        last("w", -1, 1, 2);
        last("rB", -1, 1);
        last("n8", -1, 1);
        last("s(0)", -1);
        last("s(2)", -1, 1, 2);
        last("z", -1, 1, 0);
        last("b=9", -1, 9);
        Check.due("11 the second of two bits", late(19, "n4;y:n4", 1), 5001);
    }

    private static void manyOfArrays() {
        last("B[21]", 3001);
        last("B[0-1]", 3001);
        last("B[!9]", 1001);
        last("B[!9]", -1, 9);
        last("B[0]", -1);
        last("B[?0]", -1);
        // the array is the 200th node, and its element, also one that is tried in vain, is one more
        last("B[1]", 5001);
        last("B[?1]", 5001);
        last("B[*]", 5001);
        last("B[!9]", 5001, 1);
        last("D[*]", 5001);
        Check.due("11 the field of an element out", late(17, "D[1]"), 1001);
        Check.due("11 the field of an element is one too many", late(18, "D[1]"), 5001);
        Check.due("11 a later field of an element out", late(16, "D[1]", 7, 7), 1002);
        Check.due("11 a later field of an element is one too many", late(17, "D[1]", 7, 7), 5002);
        Check.due("11 a try behind the last element out", late(15, "D[*]", 7, 7, 7), 5004);
        Check.due("11 with room for that try", late(13, "D[*]", 7, 7, 7), -1);
        Check.due("11 an array by ! without its end", late(16, "D[!9]", 7, 7, 7), 1001);
        Check.due("11 an array by ! with an element too many", late(16, "D[!9]", 7, 7, 7, 7), 5004);
    }

    private static void manyOfNames() {
        last("B", -1);
        last("C", 5001, 8);
        last("C|B", 5001, 8);
        Check.due("11 a field of a structure", late(18, "C", 8), 2001);
        Check.due("11 a try behind one in vain", late(18, "C|B", 8), 5001);
        Check.due("11 with room for both tries", late(17, "C|B", 8), -1);
        Check.due("11 a later field of a structure", late(18, "D", 8, 8), 5002);
        Check.due("11 with room for it", late(17, "D", 8, 8), 1002);
        // the sum of s and that of an array in a structure that is tried
        Check.due("11 a sum in a try", Check.fault("F{a:A[8];c:B[20];x:E|B;}A{x:B[20];}B{}E{y:s(101);}"), 5000);
        Check.due("11 with room for it", Check.fault("F{a:A[8];c:B[18];x:E|B;}A{x:B[20];}B{}E{y:s(101);}"), -1);
        Check.due("11 a count in a try", Check.fault("F{a:A[8];c:B[20];x:E|B;}A{x:B[20];}B{}E{y:B[21];}"), 5000);
        Check.due("11 with room for it", Check.fault("F{a:A[8];c:B[18];x:E|B;}A{x:B[20];}B{}E{y:B[21];}"), -1);
    }

    /** Each element makes 4 nodes: B and its field in vain, and then C and its field. */
    private static void manyOfTries() {
        for (String fault : new String[] {"b=1", "W=1", "s(101)", "z", "s(99)", "F[21]"}) {
            String form = "F{x:B|C[*];}B{a:" + fault + ";}C{a:b;}";
            int[] bytes = new int[49];
            for (int k = 0; k < bytes.length; k++) {
                bytes[k] = 9;
            }
            Check.due("11 49 elements behind " + fault, Check.fault(form, bytes), 5049);
            Check.due("11 48 elements behind " + fault, Check.with(form, java.util.Arrays.copyOf(bytes, 48)).nodes(), 98);
        }
        String told = "F{r:rG;}G{x:B|C[*];}B{a:b=1;}C{a:b;}";
        HexTemplates y = Check.with(told, java.util.Arrays.copyOf(new int[] {1}, 49));
        Check.due("16 48 elements", y.follow(1), 48);
        Check.due("17 48 elements", y.chain(1), 1);
        HexTemplates z = Check.with(told, java.util.Arrays.copyOf(new int[] {1}, 50));
        Check.due("16 49 elements", z.follow(1), HexTemplates.NONE);
        Check.due("17 49 elements", z.chain(1), 0);
        // an element twice is one more: refused, as it would be MANY
        HexTemplates x = Check.with("F{x:B|C[*];}B{a:b=1;}C{a:b;}", new int[48]);
        Check.state("23 too many nodes in vain", () -> x.element(1, 0, true));
        Check.due("23 one less", x.element(1, 0, false), 1);
        Check.due("23 and one more", x.element(1, 0, true), 2);
    }

    /** What is too deep is no node, and so DEEP also behind 200 nodes. */
    private static void manyOrDeep() {
        Check.due("11 a deep structure behind 200", Check.fault("A{n:b;c:B[n];a:A;}B{x:b;}", levels(91)), 4097);
        Check.due("11 many ahead of it", Check.fault("A{n:b;c:B[n];a:A;}B{x:b;}", levels(92)), 5097);
        // the deepest one has only deep ones in it; the B in place of it is one too many
        Check.due("11 a try in place of it", Check.fault("A{n:b;c:B[n];a:A|B;}B{x:b;}", levels(91)), 5096);
        Check.due("11 a deep element behind 200", Check.fault("A{n:b;c:B[n];a:A[1];}B{x:b;}", levels(88)), 4094);
        deepIsNoNode();
        // the deepest array by * has none; the one in which it is tries one element more
        Check.due("11 a try behind a deep one", Check.fault("A{n:b;c:B[n];a:A[*];}B{x:b;}", levels(88)), 5094);
    }

    /** "also that of a structure for each Name that is tried and not DEEP": DEEP ones don't count, however many are tried. */
    private static void deepIsNoNode() {
        // 6 nodes, 3 for each byte, and 2 for the element that is tried at the end; each x tries one or more that are DEEP
        for (String names : new String[] {"A", "A|B", "A|A|A|A|A|A"}) {
            String form = "A{a:B;}B{a:C;}C{a:D;}D{a:E;}E{a:F[*];}F{b:b;x:" + names + "[*];}";
            Check.due("12 deep ones by " + names, Check.with(form, Check.many(64)).nodes(), 198);
            Check.due("11 no node more by " + names, Check.fault(form, Check.many(65)), 5065);
        }
        // F has a DEEP element at the offset 1; A, which is tried then, has a DEEP structure at the offset 0
        String names = "A{a:B;}B{a:C;}C{a:D;}D{a:E;}E{x:F|A;}F{a:b;b:A|B|C[!0];}";
        Check.due("11 a DEEP element", Check.fault(names, 1, 1, 0), 4000);
        Check.due("11 without one", Check.fault(names, 1, 0), -1);
    }

    /** Bytes for structures in five others, with so many elements in all, none in the deepest one. */
    private static int[] levels(int elements) {
        int[] all = Check.many(elements + 6);
        int at = 0;
        for (int left = elements, level = 0; level < 6; level++) {
            int own = level == 5 ? 0 : Math.min(left, 20);
            all[at] = own;
            at += own + 1;
            left -= own;
        }
        return all;
    }

    private static void nodes() {
        HexTemplates x = Check.with("F{m:w;h:W;r:rF;s:s(2);e:s(0);z:z;a:A|B[2];c:C;}A{x:b=9;}B{y:b;}C{d:rC;}",
            1, 2, 1, 2, 7, 65, 66, 67, 0, 5, 9, 200, 77);
        Check.due("12 nodes", x.nodes(), 14);
        Check.node("13 the whole file", x, 0, HexTemplates.STRUCTURE, 5, 0, 12, 5, HexTemplates.NONE, 1);
        Check.node("13 w", x, 1, HexTemplates.NUMBER, 12, 0, 2, 513, 0, 1);
        Check.node("13 W", x, 2, HexTemplates.NUMBER, 7, 2, 2, 258, 0, 1);
        Check.node("13 r", x, 3, HexTemplates.REFERENCE, 17, 4, 1, 7, 0, 1);
        Check.node("13 s", x, 4, HexTemplates.STRING, 18, 5, 2, 65, 0, 1);
        Check.node("13 an empty s", x, 5, HexTemplates.STRING, 4, 7, 0, HexTemplates.NONE, 0, 1);
        Check.node("13 z", x, 6, HexTemplates.STRING, 25, 7, 2, 67, 0, 1);
        Check.node("13 an array", x, 7, HexTemplates.ARRAY, 0, 9, 2, 2, 0, 1);
        Check.node("13 B", x, 8, HexTemplates.STRUCTURE, 1, 9, 1, 1, 7, 1);
        Check.node("13 y", x, 9, HexTemplates.NUMBER, 24, 9, 1, 5, 8, 1);
        Check.node("13 A", x, 10, HexTemplates.STRUCTURE, 0, 10, 1, 0, 7, 1);
        Check.node("13 x with an INT", x, 11, HexTemplates.NUMBER, 23, 10, 1, 9, 10, 1);
        Check.node("13 a structure", x, 12, HexTemplates.STRUCTURE, 2, 11, 1, 2, 0, 1);
        Check.node("13 a reference in it", x, 13, HexTemplates.REFERENCE, 3, 11, 1, 200, 12, 1);
        Check.index("13 below", () -> x.node(-1, 0));
        Check.index("13 too far", () -> x.node(14, 0));
        Check.index("13 the node first", () -> x.node(14, 7));
        Check.argument("13 what below", () -> x.node(0, -1));
        Check.argument("13 what above", () -> x.node(13, 7));
        Check.due("13 z of 0 alone", Check.with("F{z:z;}", 0).node(1, 4), 0);
        Check.due("13 an empty array", Check.with("F{a:F[0];}").node(1, 4), 0);
    }

    private static void bits() {
        HexTemplates x = Check.with("F{a:n3;b:n5;c:n8;d:n1;e:n7;f:b;}", 0b10110001, 0xa5, 0b01111110, 9);
        Check.due("12 nodes of bits", x.nodes(), 7);
        Check.node("13 n3", x, 1, HexTemplates.BITS, 0, 0, 1, 0b101, 0, 1);
        Check.node("13 n5", x, 2, HexTemplates.BITS, 1, 0, 1, 0b10001, 0, 1);
        Check.node("13 n8", x, 3, HexTemplates.BITS, 2, 1, 1, 0xa5, 0, 1);
        Check.node("13 n1", x, 4, HexTemplates.BITS, 3, 2, 1, 0, 0, 1);
        Check.node("13 n7", x, 5, HexTemplates.BITS, 4, 2, 1, 126, 0, 1);
        Check.node("13 behind bits", x, 6, HexTemplates.NUMBER, 5, 3, 1, 9, 0, 1);
        Check.due("13 the whole", x.node(0, 3), 4);
        HexTemplates y = Check.with("F{l:b=#b;s:b=+a;x:b=^b;a:n4;b:n4;}", 1, 0x5a, 0x5a, 0x5a);
        Check.due("14 relations to bits", y.wrong(), 0);
        Check.due("15 relations to bits", y.wrongByAll(), 0);
    }

    private static void relations() {
        String form = "F{a:b=#s;b:w=+s;c:W=^s;d:b=%e;s:s(4);e:A[2];f:b=+e;g:b=#e;}A{x:w;}";
        int[] fine = {4, 0x59, 2, 0, 0xfc, 2, 0xf0, 0xa5, 0xc7, 0x6e - 0x70 + 0x70, 200, 100, 50, 25, 119, 4};
        // the sum of the string is f0 + a5 + c7 + 6e = 2ca, and f0 ^ a5 ^ c7 ^ 6e = fc
        fine[1] = 0xca;
        HexTemplates x = Check.with(form, fine);
        Check.due("14 all hold", x.wrong(), 0);
        Check.due("15 all hold", x.wrongByAll(), 0);
        for (int k : new int[] {0, 1, 2, 3, 4, 5, 14, 15}) {
            int[] other = fine.clone();
            other[k] ^= 16;
            HexTemplates y = Check.with(form, other);
            Check.due("14 without byte " + k, y.wrong(), 1);
            Check.due("15 without byte " + k, y.wrongByAll(), 1);
        }
        HexTemplates z = Check.with(form, new int[16]);
        Check.due("14 five do not", z.wrong(), 3);
        Check.due("15 five do not", z.wrongByAll(), 3);
        Check.due("13 #", z.node(1, 6), 0);
        Check.due("13 +", z.node(2, 6), 1);
        Check.due("13 %", z.node(4, 6), 0);
        HexTemplates n = Check.with("F{a:A[2];b:b=+a;}A{c:b=#d;d:s(2);}", 2, 7, 7, 3, 7, 7, 33);
        Check.due("14 in elements", n.wrong(), 1);
        Check.due("15 in elements", n.wrongByAll(), 1);
        Check.due("15 asked first", Check.with("F{a:b=#b;b:s(1);}", 9, 9).wrongByAll(), 1);
        HexTemplates none = Check.with("F{a:b=#b;b:s(9);}", 1);
        Check.due("14 without a template", none.wrong(), 0);
        Check.due("15 without a template", none.wrongByAll(), 0);
    }

    private static void follow() {
        HexTemplates x = Check.with("F{a:rG;b:rH;c:rF;d:rE;e:rG;f:b;}G{x:b=7;y:w;}H{z:z;}E{}", 6, 4, 1, 255, 7, 0, 7, 1, 2);
        Check.due("16 G", x.follow(1), 3);
        Check.due("16 H", x.follow(2), 2);
        Check.due("16 the whole one elsewhere", x.follow(3), 6);
        Check.due("16 nothing behind the end", x.follow(4), 0);
        Check.due("16 a fault", x.follow(5), HexTemplates.NONE);
        Check.state("16 a number", () -> x.follow(6));
        Check.state("16 the whole file", () -> x.follow(0));
        Check.index("16 too far", () -> x.follow(7));
        Check.index("16 below", () -> x.follow(-1));
        Check.due("12 the nodes stay", x.nodes(), 7);
        Check.due("16 no bytes are missing of none", Check.with("F{a:rG;}G{s:s(0);}", 200).follow(1), 0);
        Check.due("16 a byte is missing behind the end", Check.with("F{a:rG;}G{z:z;}", 200).follow(1), HexTemplates.NONE);
        HexTemplates y = Check.with("A{r:rA;n:b;a:A[n];}", 0, 1, 2, 1, 0, 1, 0, 1, 0, 0);
        Check.due("16 all anew", y.follow(1), 10);
        Check.due("16 an inner one", y.follow(5), y.node(0, 3) - 2);
    }

    private static void chain() {
        HexTemplates x = Check.with("F{a:rG;b:b;}G{x:b;y:rG;z:rF;}", 2, 0, 1, 5, 0, 9, 200);
        // G at 2 leads to G at 5, which is out
        Check.due("17 one", x.chain(1), 1);
        Check.state("17 a number", () -> x.chain(2));
        Check.index("17 too far", () -> x.chain(3));
        Check.index("17 below", () -> x.chain(-1));
        HexTemplates y = Check.with("F{a:rG;}G{x:b=1;y:rG;}", 1, 1, 3, 1, 5, 2, 9);
        // G at 1, G at 3, and MAGIC at 5
        Check.due("17 two", y.chain(1), 2);
        Check.due("17 none", Check.with("F{a:rG;}G{x:w;}", 0).chain(1), 0);
        Check.due("17 one that ends", Check.with("F{a:rG;}G{x:b;}", 0).chain(1), 1);
        HexTemplates far = Check.with("F{a:rG;b:rG;}G{s:s(0);}", 255, 0);
        Check.due("17 behind the end", far.chain(1), 1);
        Check.due("17 once more", far.chain(1), 1);
        Check.due("17 a loop of one", Check.with("F{a:rF;}", 0).chain(1), HexTemplates.LOOPS);
        Check.due("17 a loop behind a start", Check.with("F{a:rG;}G{x:rG;}", 1, 2, 3, 2).chain(1), HexTemplates.LOOPS);
        Check.due("17 the same offset, another Name",
            Check.with("F{a:rG;}G{x:rH;}H{x:rI;}I{x:b;}", 1, 1).chain(1), 3);
        Check.due("17 not of a field's own", Check.with("F{a:rG;}G{x:H;}H{x:rF;}", 1, 1).chain(1), 1);
        Check.due("17 the first of its own", Check.with("F{a:rG;}G{x:H;y:rI;z:rG;}H{x:rF;}I{x:w;}", 1, 0, 4, 1, 0).chain(1), 1);
    }

    private static void find() {
        HexTemplates x = Check.with("F{}", 0x15, 0x25, 0xff, 0x15);
        Check.due("18 first", x.find(0x15, 255, 0), 0);
        Check.due("18 from one on", x.find(0x15, 255, 1), 3);
        Check.due("18 at that one", x.find(0x15, 255, 3), 3);
        Check.due("18 masked", x.find(0x35, 0x0f, 1), 1);
        Check.due("18 mask 0", x.find(77, 0, 2), 2);
        Check.due("18 none", x.find(0x16, 255, 0), HexTemplates.NONE);
        Check.due("18 behind the end", x.find(0, 0, 4), HexTemplates.NONE);
        Check.due("18 at 200", x.find(0, 0, 200), HexTemplates.NONE);
        Check.argument("18 value below", () -> x.find(-1, 0, 0));
        Check.argument("18 value above", () -> x.find(256, 0, 0));
        Check.argument("18 mask below", () -> x.find(0, -1, 0));
        Check.argument("18 mask above", () -> x.find(0, 256, 0));
        Check.argument("18 from below", () -> x.find(0, 0, -1));
        Check.argument("18 from above", () -> x.find(0, 0, 201));
    }

    private static void findField() {
        HexTemplates x = Check.with("F{a:b;b:W;c:n4;d:n4;r:rF;e:s(1);f:A[2];}A{a:b;}", 7, 255, 255, 0x7a, 7, 7, 7, 7);
        Check.due("19 number", x.findField(0, 7, 0), 1);
        Check.due("19 from one on", x.findField(0, 7, 2), 9);
        Check.due("19 at that one", x.findField(0, 7, 11), 11);
        Check.due("19 behind", x.findField(0, 7, 12), HexTemplates.NONE);
        Check.due("19 a great one", x.findField(1, 65535, 0), 2);
        Check.due("19 bits", x.findField(3, 10, 0), 4);
        Check.due("19 a reference", x.findField(17, 7, 0), 5);
        Check.due("19 no string", x.findField(4, 7, 0), HexTemplates.NONE);
        Check.due("19 no array", x.findField(5, 2, 0), HexTemplates.NONE);
        Check.due("19 no structure", x.findField(5, 5, 0), HexTemplates.NONE);
        Check.due("19 another value", x.findField(0, 8, 0), HexTemplates.NONE);
        Check.due("19 at 200", x.findField(0, 7, 200), HexTemplates.NONE);
        Check.argument("19 name below", () -> x.findField(-1, 0, 0));
        Check.argument("19 name above", () -> x.findField(26, 0, 0));
        Check.argument("19 value below", () -> x.findField(0, -1, 0));
        Check.argument("19 value above", () -> x.findField(0, 65536, 0));
        Check.argument("19 from below", () -> x.findField(0, 0, -1));
        Check.argument("19 from above", () -> x.findField(0, 0, 201));
        Check.due("19 without a template", new HexTemplates().findField(0, 0, 0), HexTemplates.NONE);
    }
}
