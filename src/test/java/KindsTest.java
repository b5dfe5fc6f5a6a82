/**
 * Each kind of relation with each kind of field and of array, in reading and in each step of an edit, and
 * structures in as many others as there may be.
 */
public final class KindsTest {
    private static final String[] NUMBERS = {"b", "w", "W"};
    /** What a relation may tell of, and how many bytes that has of those of WHOLE. */
    private static final String[] OTHERS = {"b", "w", "W", "rG", "n8", "s(3)", "z", "G", "H|G", "J", "G[2]", "G[*]", "G[!50]",
        "G[?1]", "H|G[3]", "J[2]", "s(0)", "G[0]", "G[?0]"};
    private static final int[] LENGTHS = {1, 2, 2, 1, 1, 3, 6, 1, 1, 3, 2, 6, 2, 1, 3, 6, 0, 0, 0};
    private static final int[] COUNTS = {0, 0, 0, 0, 0, 0, 0, 0, 0, 0, 2, 6, 2, 1, 3, 2, 0, 0, 0};
    private static final int[] WHOLE = {200, 100, 50, 7, 250, 0};
    private static final String STRUCTURES = "G{x:b;}H{x:b=1;}J{x:b;y:W;}";
    /** The ways to have elements, each with what is behind the array. */
    private static final String[] WAYS = {"E[n];", "E[*];", "E[!9];e:b;", "E[?1];"};

    public static void main(String[] args) {
        puttingRight();
        rightBefore();
        halfBytes();
        lengthsOfStrings();
        countsOfArrays();
        countsAheadOfRounds();
        lengthsAheadOfRounds();
        elementsByCondition();
        referencesByWays();
        referencesOfStrings();
        referencesInDepths();
        followedFromAnywhere();
        triedFromTheBeginning();
        manyAtOnce();
        nested();
        nestedByName();
        Check.end();
    }

    private static int[] joined(int[]... rows) {
        int size = 0;
        for (int[] row : rows) {
            size += row.length;
        }
        int[] all = new int[size];
        int at = 0;
        for (int[] row : rows) {
            System.arraycopy(row, 0, all, at, row.length);
            at += row.length;
        }
        return all;
    }

    private static int[] row(int... bytes) {
        return bytes;
    }

    private static int[] number(String type, int value) {
        return type.equals("b") ? row(value & 255) : type.equals("w") ? row(value & 255, value >> 8) : row(value >> 8, value & 255);
    }

    private static int due(char relation, int k, int from) {
        int all = relation == '#' ? LENGTHS[k] : relation == '%' ? COUNTS[k] : 0;
        for (int j = 0; j < LENGTHS[k]; j++) {
            all = relation == '+' ? all + WHOLE[from + j] : relation == '^' ? all ^ WHOLE[from + j] : all;
        }
        return all;
    }

    /** "All fields with # and %, that are not as they should be, by rising nodes, get what they should be"; "all fields with + and ^ get what they should be" */
    private static void puttingRight() {
        for (String type : NUMBERS) {
            for (int k = 0; k < OTHERS.length; k++) {
                for (char relation : "#%+^".toCharArray()) {
                    if (relation == '%' && !OTHERS[k].contains("[")) {
                        continue;
                    }
                    int due = due(relation, k, 0) & (type.equals("b") ? 255 : 65535);
                    String form = "F{a:" + type + "=" + relation + "c;c:" + OTHERS[k] + ";}" + STRUCTURES;
                    for (int off : new int[] {1, 77}) {
                        HexTemplates x = Check.with(form, joined(number(type, due + off & 255), WHOLE));
                        Check.due("14 " + form, x.wrong(), 1);
                        Check.due("15 " + form, x.wrongByAll(), 1);
                        Check.due("13 " + form, x.node(1, 6), 0);
                        Check.due("24 " + form, x.repair(), 1);
                        Check.file("24 " + form, x, joined(number(type, due), WHOLE));
                        Check.due("14 right, " + form, x.wrong() + x.wrongByAll(), 0);
                    }
                }
            }
        }
    }

    /** "that of any other field of the structure": also of one ahead of it. */
    private static void rightBefore() {
        for (String type : NUMBERS) {
            for (int k = 0; k < OTHERS.length; k++) {
                for (char relation : "#%+^".toCharArray()) {
                    if (relation == '%' && !OTHERS[k].contains("[") || OTHERS[k].equals("G[*]")) {
                        continue;
                    }
                    int due = due(relation, k, 0) & (type.equals("b") ? 255 : 65535);
                    String form = "F{c:" + OTHERS[k] + ";a:" + type + "=" + relation + "c;}" + STRUCTURES;
                    int[] first = java.util.Arrays.copyOf(WHOLE, LENGTHS[k]);
                    // what is behind an array by ! begins with its end, and so that is the number's first byte
                    boolean isEnded = OTHERS[k].contains("!");
                    int[] wrong = isEnded ? row(50, 3) : number(type, due + 1 & 255);
                    HexTemplates x = Check.with(form, joined(first, wrong, row(9)));
                    if (isEnded) {
                        Check.due("14 " + form, x.wrong() == 1 && x.wrongByAll() == 1 ? 1 : 0, 1);
                        continue;
                    }
                    Check.due("24 " + form, x.repair(), 1);
                    Check.file("24 " + form, x, joined(first, number(type, due), row(9)));
                }
            }
        }
    }

    /** "a field n those of its byte": the whole byte, by whatever bits of it, and by two fields at once. */
    private static void halfBytes() {
        for (int bits = 1; bits < 8; bits++) {
            for (String name : new String[] {"c", "d"}) {
                for (char relation : "#+^".toCharArray()) {
                    String form = "F{a:w=" + relation + name + ";c:n" + bits + ";d:n" + (8 - bits) + ";}";
                    HexTemplates x = Check.with(form, 9, 9, 0xb7);
                    Check.due("24 " + form, x.repair(), 1);
                    Check.file("24 " + form, x, relation == '#' ? 1 : 0xb7, 0, 0xb7);
                    Check.due("20 a half of it, " + form, x.set(2, 1), 2);
                    int all = 0xb7 & (1 << 8 - bits) - 1 | 1 << 8 - bits;
                    Check.file("20 a half of it, " + form, x, relation == '#' ? 1 : all, 0, all);
                }
            }
        }
    }

    /** "each field with # whose field has the bytes, or gets them, in it, gets its new length", by each type, of each string. */
    private static void lengthsOfStrings() {
        for (String type : NUMBERS) {
            HexTemplates x = Check.with("F{n:" + type + "=#s;s:s(n);z:z;}", joined(number(type, 2), row(5, 6, 7, 8, 0)));
            x.insert(2, 1, 9);
            Check.file("21 s by " + type, x, joined(number(type, 3), row(5, 9, 6, 7, 8, 0)));
            x.remove(2, 2);
            x.remove(2, 1);
            Check.file("22 s by " + type, x, joined(number(type, 1), row(5, 7, 8, 0)));
            String form = "F{l:b=#g;m:" + type + "=#t;g:G;t:s(m);}G{n:" + type + "=#z;z:z;s:s(n);}";
            int[] n = number(type, 3);
            HexTemplates y = Check.with(form, joined(row(6 + n.length), number(type, 2), n, row(5, 6, 0, 1, 2, 3, 4, 5, 6)));
            int z = 5;
            Check.due("13 a string", y.node(z, 0), HexTemplates.STRING);
            // the string behind it has a byte more then, and so the next one begins a byte later
            y.insert(z, 2, 7);
            Check.file("21 z by " + type, y, joined(row(8 + n.length), number(type, 2), number(type, 4),
                row(5, 6, 7, 0, 1, 2, 3, 4, 5, 6)));
            y.remove(z, 0);
            Check.file("22 z by " + type, y, joined(row(6 + n.length), number(type, 2), n, row(6, 7, 0, 1, 2, 3, 4, 5, 6)));
        }
    }

    /** "and each one with % of the array its new count", by each type; and the length of it by #. */
    private static void countsOfArrays() {
        for (String type : NUMBERS) {
            for (char relation : "%#".toCharArray()) {
                String form = "F{n:" + type + "=" + relation + "a;a:E[n];z:z;}E{x:b;}";
                int[] tail = {7, 8, 0};
                HexTemplates x = Check.with(form, joined(number(type, 2), row(5, 6), tail));
                x.element(2, 0, true);
                Check.file("23 " + form, x, joined(number(type, 3), row(5, 5, 6), tail));
                x.element(2, 2, false);
                x.element(2, 1, false);
                Check.file("23 taken out, " + form, x, joined(number(type, 1), row(5), tail));
                x.element(2, 0, false);
                Check.file("23 none left, " + form, x, joined(number(type, 0), tail));
            }
        }
    }

    /** The new length and count are there ahead of the four times of 2.: so four times are enough behind them. */
    private static void countsAheadOfRounds() {
        for (String type : NUMBERS) {
            for (String way : new String[] {"E[*]", "E[!9]", "E[n]"}) {
                for (char relation : "%#".toCharArray()) {
                    // l, m, p, q and r are right one after the other behind n
                    String form = "F{l:b=#g;m:b=#t;g:G;t:s(l);}G{n:" + type + "=" + relation + "a;p:b=#u;q:b=#v;r:b=#w;a:" + way
                        + ";u:s(n);v:s(p);w:s(q);}E{x:b=1;}";
                    int size = type.equals("b") ? 1 : 2;
                    int[] head = joined(row(size + 3 + 8, size + 11), number(type, 2), row(2, 2, 2, 1, 1));
                    HexTemplates x = Check.with(form, joined(head, row(9), new int[60]));
                    Check.due("14 all hold, " + form, x.wrong(), 0);
                    int array = 8;
                    Check.due("13 an array", x.node(array, 0), HexTemplates.ARRAY);
                    Check.due("23 " + form, x.element(array, 1, true), 1);
                    Check.due("14 all hold, " + form, x.wrong(), 0);
                    Check.file("23 " + form, x, joined(row(size + 15, size + 15), number(type, 3), row(3, 3, 3, 1, 1, 1, 9), new int[60]));
                    Check.due("23 taken out, " + form, x.element(array, 0, false), 2);
                    Check.file("23 taken out, " + form, x, joined(head, row(9), new int[60]));
                }
            }
        }
    }

    /** The same for the length of an array, an element of which has the string; and for the structures around that. */
    private static void lengthsAheadOfRounds() {
        for (String type : NUMBERS) {
            for (String a : new String[] {"E[*]", "E[!9]", "E[?p]", "E[1]", "E", "H|E[*]", "H|E"}) {
                String form = "F{l:b=#g;m:b=#t;g:G;t:s(l);}G{n:" + type + "=#a;p:b=#u;q:b=#v;r:b=#w;a:" + a
                    + ";u:s(n);v:s(p);w:s(q);}E{x:b=1;z:z;}H{x:b=2;}";
                int size = type.equals("b") ? 1 : 2;
                int[] tail = new int[60];
                tail[0] = 9;
                int[] head = joined(row(size + 11, size + 11), number(type, 2), row(2, 2, 2, 1, 0));
                HexTemplates x = Check.with(form, joined(head, tail));
                Check.due("14 all hold, " + form, x.wrong(), 0);
                int z = a.contains("[") ? 11 : 10;
                Check.due("13 the end of a string", x.node(z, 1), 25);
                Check.due("21 " + form, x.insert(z, 0, 8), 1);
                Check.file("21 " + form, x, joined(row(size + 15, size + 15), number(type, 3), row(3, 3, 3, 1, 8, 0), tail));
                Check.due("22 " + form, x.remove(z, 0), 2);
                Check.file("22 " + form, x, joined(head, tail));
            }
        }
    }

    /** The one element of an array by ? is told of ahead of the reading, too: without it, there is none. */
    private static void elementsByCondition() {
        for (String type : NUMBERS) {
            for (char relation : "%#".toCharArray()) {
                String form = "F{n:" + type + "=" + relation + "a;a:E[?n];z:z;}E{x:b;}";
                HexTemplates x = Check.with(form, joined(number(type, 1), row(5, 6, 0)));
                x.element(2, 0, false);
                Check.file("23 taken out, " + form, x, joined(number(type, 0), row(6, 0)));
                x.goTo(0);
                x.element(2, 0, true);
                Check.file("23 doubled, " + form, x, joined(number(type, 1), row(5, 5, 6, 0)));
            }
        }
    }

    /** References follow whatever way the array has its elements. */
    private static void referencesByWays() {
        for (String way : WAYS) {
            String form = "F{r:rF;q:rE;n:b;a:" + way + "}E{x:b;y:b=5;}";
            int count = way.contains("?") ? 1 : 2;
            for (int place = 0; place < count; place++) {
                int p = 3 + 2 * place;
                for (int to = 0; to < 20; to++) {
                    int[] file = count == 1 ? row(to, 0, count, 1, 5) : row(to, 0, count, 1, 5, 2, 5, 9);
                    if (!way.contains("n")) {
                        HexTemplates x = Check.with(form, file);
                        Check.due("23 doubled, " + form, x.element(4, place, true), 1);
                        Check.due("23 doubled at " + place + ", a reference to " + to + ", " + form, x.byteAt(0), to >= p + 2 ? to + 2 : to);
                        Check.due("23 doubled, a reference to 0, " + form, x.byteAt(1), 0);
                    }
                    if (!way.contains("?") && !way.contains("n")) {
                        HexTemplates x = Check.with(form, file);
                        Check.due("23 taken out, " + form, x.element(4, place, false), 1);
                        int due = to >= p + 2 ? to - 2 : to > p ? p : to;
                        Check.due("23 taken out at " + place + ", a reference to " + to + ", " + form, x.byteAt(0), due);
                    }
                }
            }
        }
        for (int to = 0; to < 20; to++) {
            HexTemplates x = Check.with("F{r:rF;n:b=%a;a:E[n];}E{x:b;y:b=5;}", to, 2, 1, 5, 2, 5);
            x.element(3, 0, true);
            Check.due("23 doubled by a sum, a reference to " + to, x.byteAt(0), to >= 4 ? to + 2 : to);
            x.goTo(0);
            x.element(3, 0, false);
            Check.due("23 taken out by a sum, a reference to " + to, x.byteAt(0), to >= 4 ? to - 2 : to > 2 ? 2 : to);
            HexTemplates y = Check.with("F{r:rF;n:b;a:E[?n];z:z;}E{x:b;y:b=5;}", to, 2, 1, 5, 2, 5, 0);
            y.element(3, 0, true);
            Check.due("23 doubled by a condition, a reference to " + to, y.byteAt(0), to >= 4 ? to + 2 : to);
            y.goTo(0);
            y.element(3, 0, false);
            Check.due("23 taken out by a condition, a reference to " + to, y.byteAt(0), to >= 4 ? to - 2 : to > 2 ? 2 : to);
        }
    }

    /** References wherever they are: ahead, in elements and in structures, and behind; by s and by z. */
    private static void referencesOfStrings() {
        for (String string : new String[] {"s(n)", "z"}) {
            String form = "F{r:rF;n:b=#s;g:G;s:" + string + ";h:G;a:E[2];}G{q:rF;}E{x:b;g:G;}";
            for (int to = 0; to < 20; to++) {
                // the string has the offset 3 and 3 bytes
                HexTemplates x = Check.with(form, to, 3, to, 7, 8, 0, to, 1, to, 2, to);
                int string4 = 5;
                Check.due("13 a string", x.node(string4, 0), HexTemplates.STRING);
                x.insert(string4, 1, 9);
                int due = to >= 4 ? to + 1 : to;
                Check.file("21 " + string + ", references to " + to, x, due, 4, due, 7, 9, 8, 0, due, 1, due, 2, due);
                x.goTo(0);
                x.remove(string4, 1);
                due = to >= 5 ? to - 1 : to;
                Check.file("22 " + string + ", references to " + to, x, due, 2, due, 7, 0, due, 1, due, 2, due);
            }
        }
    }

    /** References move in whatever depth they are, ahead of the bytes and behind them. */
    private static void referencesInDepths() {
        String form = "A{r:rA;b:B;x:rA;}B{r:rB;b:C[1];x:rB;}C{r:rC;b:D;x:rC;}D{r:rD;b:E[*];x:rD;}E{r:rE;b:F;k:b=77;x:rE;}F{r:rF;z:z;x:rF;}";
        for (int to = 0; to < 30; to++) {
            // six references, the string at the offset 6, and six references again, a number behind the first of them
            int[] file = {to, to, to, to, to, to, 5, 0, to, 77, to, to, to, to, to};
            HexTemplates x = Check.with(form, file);
            int z = 14;
            Check.due("13 the string", x.node(z, 2), 6);
            x.insert(z, 1, 8);
            int due = to >= 7 ? to + 1 : to;
            Check.file("21 six deep, to " + to, x, due, due, due, due, due, due, 5, 8, 0, due, 77, due, due, due, due, due);
            x.goTo(0);
            x.remove(z, 0);
            due = to >= 7 ? to - 1 : to;
            Check.file("22 six deep, to " + to, x, due, due, due, due, due, due, 0, due, 77, due, due, due, due, due);
        }
    }

    /** A reference is followed to its own Name, wherever it is. */
    private static void followedFromAnywhere() {
        String form = "F{r:rG;a:E|D[2];s:S;q:rH;}E{k:b=1;q:rH;}D{k:b=2;r:rS;}S{x:b;t:rE;u:rG;}G{x:b;}H{x:w;}";
        HexTemplates x = Check.with(form, 0, 1, 0, 2, 0, 9, 1, 0, 0, 7, 7);
        int[] nodes = {1, 5, 8, 11, 12, 13};
        int[] lengths = {1, 2, 3, 2, 1, 2};
        for (int k = 0; k < nodes.length; k++) {
            Check.due("13 a reference " + nodes[k], x.node(nodes[k], 0), HexTemplates.REFERENCE);
            Check.due("16 of the node " + nodes[k], x.follow(nodes[k]), lengths[k]);
        }
    }

    private static final String[] READ = {"A|B[1]", "A|B[*]", "A|B[!9]", "A|B[?1]", "A|B"};

    /** "the first one that is read without a fault is it": each one from the offset at which the field or the element begins. */
    private static void triedFromTheBeginning() {
        for (String way : READ) {
            HexTemplates x = Check.with("F{h:b;a:" + way + ";}A{x:b;y:b=2;}B{x:b;y:W=258;k:b=8;}", 7, 1, 1, 2, 8, 9, 9);
            int b = way.contains("[") ? 3 : 2;
            Check.due("12 " + way, x.nodes(), b + 4);
            Check.node("13 B of " + way, x, b, HexTemplates.STRUCTURE, way.contains("[") ? 1 : 0, 1, 4, 1);
            Check.node("13 W of " + way, x, b + 2, HexTemplates.NUMBER, 24, 2, 2, 258, b);
            Check.due("16 " + way, Check.with("G{r:rF;}F{h:b;a:" + way + ";}A{x:b;y:b=2;}B{x:b;y:W=258;k:b=8;}",
                1, 7, 1, 1, 2, 8, 9, 9).follow(1), 5);
        }
    }

    /** "MANY is a fault of the whole file at once, whatever is tried": it is where it came up, not where the next Name begins. */
    private static void manyAtOnce() {
        for (String way : READ) {
            // F, h, p and c, 8 * 22 of p, h of c, and an array are ahead of what is tried
            String form = "F{h:b;p:P[8];c:X[h];a:" + way + ";}P{x:X[20];}X{}A{x:b;y:b;z:b;}B{x:b;}";
            int ahead = 180 + (way.contains("[") ? 1 : 0);
            for (int fields = 0; fields <= 3; fields++) {
                int h = 199 - fields - ahead;
                Check.due("11 MANY behind " + fields + " fields of " + way, Check.fault(form, h, 1, 1, 1, 9), fields == 3
                    ? way.contains("*") ? 5004 : -1 : 5001 + fields);
            }
            Check.due("11 MANY of the structure of " + way, Check.fault(form, 200 - ahead, 1, 1, 1, 9), 5001);
        }
    }

    private static final String NEST = "A{n:b;c:b=#s;k:b;a:A[?k];s:s(n);d:w=+s;e:b=%a;}";

    /** A file by NEST: so many structures in one another, each string one longer than that in it. */
    private static int[] nest(int structures) {
        int[] all = {};
        for (int k = 1; k <= structures; k++) {
            int[] string = Check.many(k, 250);
            all = joined(row(k, k, k > 1 ? 1 : 0), all, string, number("w", 250 + k - 1), row(k > 1 ? 1 : 0));
        }
        return all;
    }

    /** What is read of a structure stays as it is while another one is read in it, in whatever depth. */
    private static void nested() {
        for (int structures = 1; structures <= 7; structures++) {
            HexTemplates x = Check.with(NEST, nest(structures));
            if (structures == 7) {
                // each one ahead of it has 3 bytes ahead of the one in it
                Check.due("11 in 6 others", x.fault(0, false), HexTemplates.DEEP);
                Check.due("11 its offset", x.fault(0, true), 18);
                continue;
            }
            Check.due("12 " + structures + " structures", x.nodes(), 8 * structures);
            Check.due("14 all hold", x.wrong(), 0);
            Check.due("15 all hold", x.wrongByAll(), 0);
            for (int depth = 0; depth < structures; depth++) {
                int last = 8 * structures - 1 - 3 * depth;
                Check.due("13 the string of the depth " + depth, x.node(last - 2, 3), structures - depth);
                Check.due("13 the sum of the depth " + depth, x.node(last - 1, 4), 250 + structures - depth - 1);
                // the length, the sum and the count in that depth, each one wrong alone
                for (int wrong : new int[] {x.node(5 * depth + 2, 2), x.node(last - 1, 2), x.node(last, 2)}) {
                    int[] file = nest(structures);
                    file[wrong] = file[wrong] + 1 & 255;
                    HexTemplates y = Check.with(NEST, file);
                    Check.due("14 one in the depth " + depth, y.wrong(), 1);
                    Check.due("15 one in the depth " + depth, y.wrongByAll(), 1);
                    Check.due("24 one in the depth " + depth, y.repair(), 1);
                    Check.file("24 one in the depth " + depth, y, nest(structures));
                }
            }
        }
    }

    /** A relation tells of a field of its own structure, not of one with that name in a structure ahead of it. */
    private static void nestedByName() {
        HexTemplates x = Check.with("A{k:b;c:b=#s;d:b=+s;e:b=%a;a:A[?k];s:s(k*2+1);}", 1, 9, 9, 9, 0, 9, 9, 9, 5, 1, 2, 3);
        Check.due("14 all are wrong", x.wrong(), 6);
        Check.due("15 all are wrong", x.wrongByAll(), 6);
        Check.due("24 each one by its own", x.repair(), 1);
        Check.file("24 each one by its own", x, 1, 3, 6, 1, 0, 1, 5, 0, 5, 1, 2, 3);
    }
}
