/** "Reading" and "References", sentence by sentence, on the bounds and on both sides of them. */
public final class ReadingBoundsTest {
    private static final int OUT = 1000, MAGIC = 2000, COUNT = 3000, DEEP = 4000, MANY = 5000, FINE = -1;

    public static void main(String[] args) {
        out();
        magic();
        countOfStrings();
        countOfArrays();
        steps();
        deep();
        deepByKinds();
        offsets();
        manyBounds();
        several();
        all();
        ends();
        conditions();
        numbering();
        lastField();
        values();
        chosen();
        relations();
        relationsInVain();
        follow();
        followAnew();
        chain();
        find();
        findField();
        Check.end();
    }

    private static int[] row(int... bytes) {
        return bytes;
    }

    private static int[] plus(int[] bytes, int... more) {
        int[] all = java.util.Arrays.copyOf(bytes, bytes.length + more.length);
        System.arraycopy(more, 0, all, bytes.length, more.length);
        return all;
    }

    private static int[] less(int[] bytes) {
        return java.util.Arrays.copyOf(bytes, bytes.length - 1);
    }

    private static void fault(String form, int due, int... bytes) {
        Check.due("11 " + form + " by " + java.util.Arrays.toString(bytes), Check.fault(form, bytes), due);
    }

    /** "OUT, bytes are missing"; "What is left behind that stays as it is." */
    private static void out() {
        String[] types = {"b", "w", "W", "rF", "n8", "s(1)", "s(2)", "s(100)", "z", "G", "G[1]", "F|G", "G[?1]", "G[!9]"};
        int[][] bytes = {{1}, {1, 2}, {1, 2}, {1}, {1}, {1}, {1, 2}, Check.many(100), {1, 0}, {1}, {1}, {1}, {1}, {1, 9}};
        for (int k = 0; k < types.length; k++) {
            String form = k == 11 ? "E{a:F|G;}F{b:b;c:b;}G{b:b;}" : "F{a:" + types[k] + ";}G{b:b;}";
            fault(form, OUT, less(bytes[k]));
            fault(form, FINE, bytes[k]);
            fault(form, FINE, plus(bytes[k], 3));
            fault(form, OUT);
            String later = "F{x:b;y:n4;z:n4;a:" + types[k] + ";}G{b:b;}";
            if (k != 11) {
                int[] own = plus(row(1, 2), bytes[k]);
                fault(later, OUT + 2, less(own));
                fault(later, FINE, own);
                fault(later, FINE, plus(own, 0));
                fault(later, OUT + 2, 1, 2);
                fault(later, OUT + 1, 1);
                fault(later, OUT);
            }
        }
        fault("F{s:s(0);}", FINE);
        fault("F{b:b;s:s(0);}", FINE, 1);
        fault("F{a:G[0];}G{b:b;}", FINE);
        fault("F{a:G[*];}G{b:b;}", FINE);
        fault("F{a:G[?0];}G{b:b;}", FINE);
        fault("F{a:n1;b:n7;c:n4;d:n4;}", OUT + 1, 7);
        HexTemplates x = Check.with("F{b:b;l:b=#s;s:s(2);}", 1, 2, 3, 4, 5, 6);
        Check.due("12 nodes without what is left", x.nodes(), 4);
        Check.due("13 the file is what is read", x.node(0, 3), 4);
        x.set(1, 9);
        Check.file("11 what is left stays", x, 9, 2, 3, 4, 5, 6);
    }

    /** "MAGIC, a value is not the INT"; "With INT the value has to be that, also if it cannot be." */
    private static void magic() {
        for (int value : new int[] {0, 1, 7, 254, 255}) {
            fault("F{a:b=" + value + ";}", FINE, value);
            fault("F{a:b=" + value + ";}", MAGIC, value + 1 & 255);
            fault("F{a:b=" + value + ";}", MAGIC, value - 1 & 255);
            fault("F{x:b;a:b=" + value + ";}", MAGIC + 1, value, 100);
        }
        for (int value : new int[] {0, 1, 255, 256, 257, 998, 999}) {
            for (int other : new int[] {value - 1, value, value + 1, value + 256, value + 65280}) {
                int low = other & 255;
                int high = other >> 8 & 255;
                int due = (other & 65535) == value ? FINE : MAGIC;
                fault("F{a:w=" + value + ";}", due, low, high);
                fault("F{a:W=" + value + ";}", due, high, low);
            }
        }
        for (int value = 256; value <= 999; value += 743) {
            for (int b = 0; b < 256; b++) {
                fault("F{a:b=" + value + ";}", MAGIC, b);
            }
        }
        fault("F{a:b=007;}", FINE, 7);
        fault("F{a:b=9;}", OUT);
        fault("F{a:w=9;}", OUT, 8);
        Check.due("13 it has the value", Check.with("F{a:w=999;}", 231, 3).node(1, 4), 999);
        Check.due("14 and no relation that does not hold", Check.with("F{a:w=999;}", 231, 3).wrong(), 0);
    }

    /** "COUNT, the sum of a string is not 0 to 100" */
    private static void countOfStrings() {
        String form = "F{n:b;m:b;s:s(n-m);}";
        for (int n = 0; n < 256; n++) {
            fault(form, n <= 100 ? FINE : COUNT + 2, Check.many(102, n, 0));
        }
        fault(form, COUNT + 2, Check.many(102, 0, 1));
        fault(form, COUNT + 2, Check.many(102, 0, 255));
        fault(form, FINE, Check.many(102, 1, 1));
        fault(form, FINE, Check.many(103, 101, 1));
        fault(form, OUT + 2, Check.many(101, 100, 0));
        fault(form, COUNT + 2, Check.many(2, 101, 0));
        fault(form, COUNT + 2, Check.many(2, 0, 1));
        fault("F{s:s(100);}", FINE, Check.many(100));
        fault("F{s:s(101);}", COUNT, Check.many(160));
        fault("F{s:s(101);}", COUNT);
        fault("F{s:s(999);}", COUNT, Check.many(160));
    }

    /** "or that of an array, but by ?, not 0 to 20" */
    private static void countOfArrays() {
        String form = "F{n:b;m:b;a:G[n-m];}G{x:b;}";
        for (int n = 0; n < 256; n++) {
            fault(form, n <= 20 ? FINE : COUNT + 2, Check.many(22, n, 0));
        }
        fault(form, COUNT + 2, Check.many(22, 0, 1));
        fault(form, COUNT + 2, Check.many(22, 0, 255));
        fault(form, FINE, Check.many(22, 21, 1));
        fault(form, COUNT + 2, Check.many(2, 21, 0));
        fault(form, OUT + 21, Check.many(21, 20, 0));
        String any = "F{n:b;m:b;a:G[?n-m];}G{x:b;}";
        for (int n = 0; n < 256; n++) {
            HexTemplates x = Check.with(any, n, 21, 7, 8);
            Check.due("11 ? of " + (n - 21), x.node(3, 4), n == 21 ? 0 : 1);
        }
        HexTemplates x = Check.with("F{a:G[*];}G{x:b;y:b;z:s(4);}", Check.many(150));
        Check.due("12 by * there may be more than 20", x.node(1, 4), 25);
        HexTemplates y = Check.with("F{a:G[!0];}G{x:b;y:b;z:s(4);}", plus(Check.many(150), 0));
        Check.due("12 by ! too", y.node(1, 4), 25);
    }

    private static int length(String sum, int... words) {
        int[] bytes = new int[160];
        for (int k = 0; k < words.length; k++) {
            bytes[2 * k] = words[k] & 255;
            bytes[2 * k + 1] = words[k] >> 8;
        }
        HexTemplates x = Check.with("F{a:w;b:w;c:w;d:w;s:s(" + sum + ");}", bytes);
        return x.nodes() == 0 ? -x.fault(0, false) : x.node(5, 3);
    }

    /** "reckoned from the left, each step being brought to the nearest number from -99999 to 99999" */
    private static void steps() {
        Check.due("11 from the left", length("a+b*c-d", 2, 3, 4, 5), 15);
        Check.due("11 from the left", length("a-b-c-d", 90, 3, 4, 5), 78);
        Check.due("11 from the left", length("a-b*c+d", 2, 3, 4, 9), 5);
        for (int over = -2; over <= 2; over++) {
            int b = 34464 + over;
            int left = Math.min(0, over);
            Check.due("11 99999 and " + over, length("a+b-c-d", 65535, b, 65535, 34400), 64 + left);
            Check.due("11 -99999 and " + -over, length("0-a-b+c+d", 65535, b, 65535, 34528), 64 - left);
            Check.due("11 99998 and 1, less " + over, length("a+b-1+1-c-d", 65535, b, 65535, 34400), 64 + left);
        }
        Check.due("11 times to 99999", length("369*271-a-b", 65535, 34400), 64);
        Check.due("11 times above 99999", length("370*271-a-b", 65535, 34400), 64);
        Check.due("11 times to 99900", length("100*999-a-b", 65535, 34400), -3);
        Check.due("11 times far above", length("999*999*999-a-b", 65535, 34400), 64);
        Check.due("11 words times words", length("a*b-c-d", 65535, 65535, 65535, 34400), 64);
        Check.due("11 99999 times a word", length("a*b*a-c-d", 65535, 65535, 65535, 34400), 64);
        Check.due("11 -99999 times a word", length("0-a*b*a+c+d", 65535, 65535, 65535, 34528), 64);
        Check.due("11 -99999 times itself", length("0-a*b*c+d", 65535, 65535, 0, 34), 34);
        Check.due("11 minus times to -99999", length("0-369*271+a+b", 65535, 34528), 64);
        Check.due("11 minus times below -99999", length("0-370*271+a+b", 65535, 34528), 64);
        Check.due("11 in an array", Check.with("F{a:w;b:w;c:G[a+b-999*0+7];}G{}", 255, 255, 255, 255).node(3, 4), 7);
        // not 0 by a step that is too great: 99999 - 99999
        Check.due("11 by ?", Check.with("F{a:w;c:G[?a*a-999*999+1];}G{}", 255, 255).node(2, 4), 1);
        Check.due("11 by ? of 0", Check.with("F{a:w;b:w;c:G[?a+b-0-a-b];}G{}", 255, 255, 160, 134).node(3, 4), 0);
    }

    /** Structures in so many others, each one a field of the one ahead. */
    private static String nest(String last) {
        return "A{x:b;a:B;}B{x:b;a:C;}C{x:b;a:D;}D{x:b;a:E;}E{x:b;a:F;}F{x:b;" + last + "}";
    }

    /** "DEEP, a structure would be in more than 5 others" */
    private static void deep() {
        HexTemplates x = Check.with(nest(""), Check.many(6));
        Check.due("11 in 5 others", x.fault(0, false), 0);
        Check.due("12 in 5 others", x.nodes(), 12);
        for (int k = 0; k < 6; k++) {
            Check.node("13 the structure in " + k, x, 2 * k, 0, 0, k, 6 - k, k, 2 * k - (k == 0 ? 1 : 2));
        }
        Check.due("11 bytes out in the deepest", Check.fault(nest(""), Check.many(5)), OUT + 5);
        for (String deeper : new String[] {"a:F;", "a:A;", "a:F|A;", "a:F[1];", "a:F[20];", "a:F[?1];", "a:F[!0];"}) {
            fault(nest(deeper), DEEP + 6, Check.many(9));
            fault(nest("b:b;" + deeper), DEEP + 7, Check.many(9));
        }
        for (String none : new String[] {"a:F[0];", "a:F[?0];", "a:F[!1];", "a:F[*];", "a:rF;"}) {
            fault(nest(none), FINE, Check.many(9));
        }
        // COUNT and OUT of the array itself come up ahead of an element that would be too deep
        fault(nest("a:F[21];"), COUNT + 6, Check.many(9));
        fault(nest("a:F[!9];"), OUT + 6, Check.many(6));
        fault(nest("a:F[1];"), DEEP + 6, Check.many(6));
        fault(nest("a:F;"), DEEP + 6, Check.many(6));
    }

    /** How deep an element is does not depend on how its array has its elements. */
    private static void deepByKinds() {
        for (String count : new String[] {"1", "*", "!9", "?1"}) {
            String all = nest("").replaceAll("a:(.);", "a:$1[" + count + "];");
            HexTemplates x = Check.with(all, 1, 1, 1, 1, 1, 1, 9);
            Check.due("11 elements in 5 others, by " + count, x.fault(0, false), 0);
            // by * the 9 is one more of the deepest ones
            Check.due("12 elements in 5 others, by " + count, x.nodes(), count.equals("*") ? 19 : 17);
            for (int k = 0; k <= 5; k++) {
                Check.due("13 the structure in " + k + " others", x.node(3 * k, 4), k);
                Check.due("13 it is in", x.node(3 * k, 5), k == 0 ? HexTemplates.NONE : 3 * k - 1);
            }
            String one = "A{x:b;a:A[" + count + "];}";
            if (count.equals("*")) {
                HexTemplates y = Check.with(one, Check.many(8));
                Check.due("12 the deepest one has none", y.nodes(), 24);
                Check.due("13 those behind it are in the array ahead of that", y.node(21, 5), 14);
                Check.due("13 which has the deepest ones", y.node(14, 4), 3);
                Check.due("13 and they have none", y.node(17, 4) + y.node(20, 4) + y.node(23, 4), 0);
            } else {
                fault(one, DEEP + 6, 1, 1, 1, 1, 1, 1, 1, 9);
                fault(one, count.equals("!9") ? FINE : DEEP + 6, 1, 1, 1, 1, 1, 1, 9);
            }
        }
    }

    /** "A fault is at the offset where the field begins with which it comes up; DEEP and MANY of an element where that begins." */
    private static void offsets() {
        fault("F{x:b;a:G;}G{x:w;y:W=1;}", MAGIC + 3, 1, 2, 3, 4, 5);
        fault("F{x:b;a:G;}G{x:w;y:s(9);}", OUT + 3, 1, 2, 3, 4, 5);
        fault("F{x:b;a:G;}G{x:w;y:s(0-1);}", COUNT + 3, 1, 2, 3, 4, 5);
        fault("F{x:b;a:G;}G{x:w;y:G[21];}", COUNT + 3, 1, 2, 3, 4, 5);
        fault("F{x:b;a:G[2];}G{x:w;y:b=3;}", MAGIC + 6, 1, 2, 3, 3, 4, 5, 6);
        fault("F{x:b;a:G[!9];}G{x:w;y:b=3;}", MAGIC + 6, 1, 2, 3, 3, 4, 5, 6);
        fault("F{x:b;a:G[!9];}G{x:w;y:b=3;}", OUT + 6, 1, 2, 3, 3, 4, 5);
        fault("F{x:b;a:G[!9];}G{x:w;y:b=3;}", OUT + 1, 1, 2, 3, 3);
        fault("F{x:b;a:G[!9];}G{y:s(0);}", OUT + 1, 1, 2, 3, 3);
        fault("F{x:b;a:G[!9];b:b=8;}G{y:b;}", MAGIC + 3, 1, 2, 3, 9);
        fault("F{x:b;a:G[?1];b:b;}G{y:b=1;}", MAGIC + 1, 1, 2);
        fault("F{x:n4;y:n4;a:n3;b:n5;}", OUT + 1, 1);
        fault("F{x:b;a:b=2;b:b=9;c:b=9;}", MAGIC + 2, 1, 2, 3, 4);
        // of an element where that begins, and not where its array does
        fault("A{x:b;a:A[1];}", DEEP + 6, Check.many(9));
        fault("A{x:w;a:A[!9];}", DEEP + 12, Check.many(20));
        String two = "A{x:b;a:B[1];}B{x:b;a:C[1];}C{x:b;a:D[1];}D{x:b;a:E[1];}E{x:b;a:F[2];}F{x:b;b:b;c:F[?x];}";
        fault(two, DEEP + 9, 1, 1, 1, 1, 1, 0, 0, 1, 1, 1);
        fault("F{x:b;a:G[*];}G{x:b;}", MANY + 99, Check.many(120));
        fault("F{x:b;a:G[*];}G{x:b;y:b;}", MANY + 132, Check.many(150));
        fault("F{x:b;a:G[*];}G{x:H;}H{y:b;}", MANY + 66, Check.many(150));
    }

    /** "MANY, more than 200 nodes would be made, with those that are tried in vain" */
    private static void manyBounds() {
        String fixed = "F{h:b;i:b;a:G[8];b:H[h];c:H[i];}G{x:H[20];}H{}";
        for (int more = 0; more <= 24; more++) {
            int h = Math.min(20, more);
            int nodes = 1 + 2 + 1 + 8 * 22 + 2 + more;
            HexTemplates x = Check.with(fixed, h, more - h);
            Check.due("11 " + nodes + " nodes", x.fault(0, false), nodes > 200 ? HexTemplates.MANY : 0);
            Check.due("11 " + nodes + " nodes, the offset", x.fault(0, true), nodes > 200 ? 2 : -1);
            Check.due("12 " + nodes + " nodes", x.nodes(), nodes > 200 ? 0 : nodes);
        }
        // "MANY is a fault of the whole file at once, whatever is tried."
        String tried = "F{h:b;i:b;x:T|E;}T{a:G[8];b:H[19];}G{x:H[20];}H{}E{}";
        Check.due("11 many in a try, whatever is tried", Check.fault(tried, 0, 0), MANY + 2);
        Check.due("11 many in a try of *", Check.fault(tried.replace("T|E", "T[*]"), 0, 0), MANY + 2);
        Check.due("11 many in a try of !", Check.fault(tried.replace("T|E", "T|E[!9]"), 0, 0, 1), MANY + 2);
        Check.due("11 one less", Check.fault(tried.replace("H[19]", "H[18]"), 0, 0), FINE);
        // what was tried in vain counts: T has 4 + 8 * 22 + h nodes, and then a fault; E makes one more
        String vain = "F{h:b;x:T|E;}T{a:G[8];b:H[15];c:b=9;}G{x:H[20];}H{}E{}";
        HexTemplates x = Check.with(vain, 0, 0);
        Check.due("11 199 in vain and E", x.fault(0, false), 0);
        Check.due("12 those in vain are none", x.nodes(), 3);
        Check.due("11 200 in vain and E", Check.fault(vain.replace("H[15]", "H[18]"), 0, 0), MANY + 1);
    }

    /** "Of several Names the structures are tried in their order, the first one that is read without a fault is it; otherwise the fault is that of the last one." */
    private static void several() {
        String forms = "G{x:b=1;}H{x:b;y:b=2;}I{x:b;y:b;z:b=3;}";
        for (String count : new String[] {"", "[1]", "[!9]", "[?1]"}) {
            fault("F{a:G|H|I" + count + ";}" + forms, MAGIC + 2, 0, 0, 0, 0);
            fault("F{a:I|H|G" + count + ";}" + forms, MAGIC, 0, 0, 0, 0);
            fault("F{a:G|I|H" + count + ";}" + forms, MAGIC + 1, 0, 0, 0, 0);
            fault("F{a:G|H|I" + count + ";}" + forms, OUT + 2, 0, 0);
            int node = count.isEmpty() ? 1 : 2;
            String first = "F{a:G|H|I" + count + ";}" + forms;
            Check.due("11 G", Check.with(first, 1, 9).node(node, 4), 6);
            Check.due("11 H", Check.with(first, 0, 2, 9).node(node, 4), 7);
            Check.due("11 I", Check.with(first, 0, 0, 3, 9).node(node, 4), 8);
            Check.due("11 H ahead of G", Check.with("F{a:H|G" + count + ";}" + forms, 1, 2, 9).node(node, 4), 7);
        }
        // a fault behind it does not bring the next one
        fault("F{a:G|H;b:b=7;}G{x:b;}H{x:b;y:b;}", MAGIC + 1, 1, 2, 7);
        fault("F{a:H|G;b:b=7;}G{x:b;}H{x:b;y:b;}", FINE, 1, 2, 7);
        // the fault of the last one, also if another one came further, or had another fault
        fault("F{a:G|H;}G{x:b;y:b;z:b=9;}H{x:b=9;}", MAGIC, 1, 2, 3);
        fault("F{a:G|H;}G{x:b=9;}H{x:s(9);}", OUT, 1, 2, 3);
        fault("F{a:G|H;}G{x:b=9;}H{x:s(101);}", COUNT, 1, 2, 3);
        fault("F{a:G|G;}G{x:b=9;}", MAGIC, 1);
        HexTemplates x = Check.with("F{a:G|H[3];}G{x:b=1;y:b;}H{x:b;}", 1, 5, 2, 1, 6);
        Check.due("13 each element anew", x.node(2, 4) * 100 + x.node(5, 4) * 10 + x.node(7, 4), 676);
    }

    /** "An array by * has elements as long as one is read without a fault, and is not empty" */
    private static void all() {
        String form = "F{a:G[*];b:s(0);}G{x:b=1;y:b;}";
        for (int count = 0; count < 6; count++) {
            int[] ones = Check.many(2 * count);
            for (int[] behind : new int[][] {{}, {1}, {0, 1}, {2, 2, 2}}) {
                HexTemplates x = Check.with(form, plus(ones, behind));
                Check.due("11 * is never a fault", x.fault(0, false), 0);
                Check.due("13 how many by *", x.node(1, 4), count);
                Check.due("13 how long by *", x.node(1, 3), 2 * count);
                Check.due("12 nodes by *", x.nodes(), 3 + 3 * count);
            }
        }
        Check.due("13 the first empty one ends it", Check.with("F{a:G|E[*];}G{x:b=1;}E{}", 1, 1, 2, 1).node(1, 4), 2);
        Check.due("13 also if a later Name is not empty", Check.with("F{a:E|G[*];}G{x:b=1;}E{}", 1, 1).node(1, 4), 0);
        Check.due("13 a string of none is empty", Check.with("F{a:G[*];}G{s:s(0);a:G[?0];}", 1, 1).node(1, 4), 0);
        Check.due("12 an empty one is no node", Check.with("F{a:E[*];}E{a:G[1];}G{s:s(0);}", 1, 1).nodes(), 2);
        Check.due("13 COUNT ends it", Check.with("F{a:G[*];}G{x:b;s:s(x);}", 1, 7, 101, 8).node(1, 4), 1);
        Check.due("13 OUT ends it", Check.with("F{a:G[*];}G{x:b;s:s(x);}", 1, 7, 3, 8).node(1, 4), 1);
        Check.due("13 MAGIC ends it", Check.with("F{a:G[*];}G{x:b;y:b=9;}", 1, 9, 3, 8).node(1, 4), 1);
        Check.due("13 OUT of ! ends it", Check.with("F{a:G[*];}G{x:b;y:H[!9];}H{z:b;}", 1, 9, 3, 8, 9, 9, 2, 2).node(1, 4), 3);
        // what is behind is read from where the last element ends
        HexTemplates x = Check.with("F{a:G[*];b:w;}G{x:b=1;y:b=1;z:b;}", 1, 1, 5, 1, 1, 6, 1, 2);
        Check.due("13 behind it", x.node(x.nodes() - 1, 4), 513);
    }

    /** "by ! as long as the next byte is not INT (a fault if there is none, or an element is empty, OUT, of the array), which does not belong to it" */
    private static void ends() {
        for (int end : new int[] {0, 1, 100, 254, 255}) {
            String form = "F{x:b;a:G[!" + end + "];y:b;}G{b:b;c:b;}";
            HexTemplates x = Check.with(form, 7, end);
            Check.due("13 no element ahead of " + end, x.node(2, 4) * 100 + x.node(2, 3) * 10 + x.nodes(), 4);
            Check.due("13 the end is the next one", x.node(3, 4), end);
            HexTemplates y = Check.with(form, 7, end ^ 1, end, end ^ 2, end, end);
            Check.due("13 the end is no first byte", y.node(2, 4), 2);
            Check.due("13 it ends there", y.node(9, 2), 5);
            fault(form, OUT + 1, 7);
            fault(form, OUT + 1, 7, end ^ 1, end);
            fault(form, OUT + 2, 7, end ^ 1);
            fault(form, OUT + 1, 7, end ^ 1, end, end ^ 2, 5);
        }
        for (int end : new int[] {256, 257, 511, 512, 999}) {
            for (int low : new int[] {0, 1, 255, end & 255}) {
                fault("F{a:G[!" + end + "];}G{b:b;}", OUT, low, low);
                fault("F{a:G[!" + end + "];}G{b:b;}", OUT);
            }
        }
        fault("F{x:b;a:E[!9];}E{}", OUT + 1, 7, 8, 9);
        fault("F{x:b;a:E[!9];}E{}", FINE, 7, 9);
        fault("F{x:b;a:E|G[!9];}E{}G{b:b;}", OUT + 1, 7, 8, 9);
        fault("F{x:b;a:G|E[!9];}E{}G{b:b=8;}", OUT + 1, 7, 8, 7, 9);
        fault("F{x:b;a:G|E[!9];}E{}G{b:b=8;}", FINE, 7, 8, 8, 9);
        fault("F{x:b;a:G[!9];}G{s:s(0);a:G[?0];}", OUT + 1, 7, 8);
    }

    /** "by ? one element, if the sum is not 0, otherwise none" */
    private static void conditions() {
        String form = "F{m:w;n:w;a:G[?m-n];y:b;}G{b:b;}";
        Check.due("13 ? of -1", Check.with(form, 4, 0, 5, 0, 7, 8).node(3, 4), 1);
        Check.due("13 ? of 0", Check.with(form, 5, 0, 5, 0, 7, 8).node(3, 4), 0);
        Check.due("13 ? of 1", Check.with(form, 6, 0, 5, 0, 7, 8).node(3, 4), 1);
        Check.due("13 ? of 256", Check.with(form, 5, 1, 5, 0, 7, 8).node(3, 4), 1);
        Check.due("13 ? of 65535", Check.with(form, 255, 255, 0, 0, 7, 8).node(3, 4), 1);
        Check.due("13 ? of -65535", Check.with(form, 0, 0, 255, 255, 7, 8).node(3, 4), 1);
        Check.due("13 without an element", Check.with(form, 5, 0, 5, 0, 7).node(4, 4), 7);
        fault(form, OUT + 5, 6, 0, 5, 0, 7);
        fault(form, OUT + 4, 6, 0, 5, 0);
        fault("F{a:E[?9];}E{}", FINE);
        Check.due("13 an empty element is one", Check.with("F{a:E[?9];}E{}").node(1, 4), 1);
    }

    /** "Nodes are numbered from 0 in the order in which they begin: the whole file; for each field one; and for an array, behind it, one for each element, with what is in it." */
    private static void numbering() {
        HexTemplates x = Check.with("C{a:A;b:B[2];s:s(0);i:n4;j:n4;d:D;}A{}B{x:b;y:A[2];}D{e:E;}E{r:rA;}", 1, 2, 3, 4);
        int[] kinds = {0, 0, 1, 0, 2, 1, 0, 0, 0, 2, 1, 0, 0, 5, 4, 4, 0, 0, 3};
        int[] names = {2, 0, 1, 1, 23, 24, 0, 0, 1, 23, 24, 0, 0, 18, 8, 9, 3, 4, 17};
        int[] offsets = {0, 0, 0, 0, 0, 1, 1, 1, 1, 1, 2, 2, 2, 2, 2, 2, 3, 3, 3};
        int[] lengths = {4, 0, 2, 1, 1, 0, 0, 0, 1, 1, 0, 0, 0, 0, 1, 1, 1, 1, 1};
        int[] values = {2, 0, 2, 1, 1, 2, 0, 0, 1, 2, 2, 0, 0, -1, 0, 3, 3, 4, 4};
        int[] parents = {-1, 0, 0, 2, 3, 3, 5, 5, 2, 8, 8, 10, 10, 0, 0, 0, 0, 16, 17};
        Check.due("12 nodes", x.nodes(), kinds.length);
        for (int k = 0; k < kinds.length; k++) {
            Check.node("13", x, k, kinds[k], names[k], offsets[k], lengths[k], values[k], parents[k], 1);
        }
    }

    /** The last field of the last structure that there may be. */
    private static void lastField() {
        HexTemplates x = Check.with("A{f:F;g:F;}B{}C{}D{}E{}F{a:b;b:b;c:b;d:b;e:b;f:b;g:b;h:b=+a;}",
            1, 2, 3, 4, 5, 6, 7, 1, 1, 2, 3, 4, 5, 6, 7, 8);
        Check.due("12 the last structure twice", x.nodes(), 19);
        Check.due("13 the last field of it", x.node(18, 4), 8);
        Check.due("14 of the second one", x.wrong(), 1);
        Check.due("15 of the second one", x.wrongByAll(), 1);
        Check.due("24 put right", x.repair(), 1);
        Check.due("14 put right", x.wrong(), 0);
        HexTemplates y = new HexTemplates();
        Check.state("4 none", () -> Check.template(y, "F{a:b;b:b;c:b=#a;d:b=%a;", 0));
        Check.template(y, "F{a:b;b:b;}", 0);
        Check.give(y, 7, 7, 7);
        Check.due("15 without the relations of what was none", y.wrongByAll(), 0);
        Check.due("12 without its fields", y.nodes(), 3);
    }

    /** The values of numbers and bits: "w and W of two, the lower one first, and the higher one first"; "from the highest bit of a byte on". */
    private static void values() {
        for (int first : new int[] {0, 1, 127, 128, 255}) {
            for (int second : new int[] {0, 1, 127, 128, 255}) {
                HexTemplates x = Check.with("F{a:w;}", first, second);
                Check.due("13 w", x.node(1, 4), first + 256 * second);
                Check.due("13 W", Check.with("F{a:W;}", first, second).node(1, 4), 256 * first + second);
                Check.due("13 b", Check.with("F{a:b;}", first, second).node(1, 4), first);
                Check.due("13 r", Check.with("F{a:rF;}", first, second).node(1, 4), first);
                Check.due("13 s", Check.with("F{a:s(2);}", first, second).node(1, 4), first);
                Check.due("13 z", Check.with("F{a:z;}", first, second, 0).node(1, 4), first);
            }
        }
        for (int bits = 1; bits < 8; bits++) {
            for (int b : new int[] {0, 1, 0x55, 0x7f, 0x80, 0xaa, 0xfe, 255}) {
                HexTemplates x = Check.with("F{x:b;a:n" + bits + ";b:n" + (8 - bits) + ";c:n8;}", 9, b, 255 - b);
                Check.due("13 n" + bits + " of " + b, x.node(2, 4), b >> 8 - bits);
                Check.due("13 the rest of " + b, x.node(3, 4), b & (1 << 8 - bits) - 1);
                Check.due("13 n8", x.node(4, 4), 255 - b);
                Check.due("13 offsets", x.node(2, 2) * 100 + x.node(3, 2) * 10 + x.node(4, 2), 112);
                Check.due("13 lengths", x.node(2, 3) * 100 + x.node(3, 3) * 10 + x.node(4, 3), 111);
            }
        }
        HexTemplates y = Check.with("F{a:n1;b:n1;c:n1;d:n1;e:n1;f:n1;g:n1;h:n1;}", 0b10110010);
        for (int k = 0; k < 8; k++) {
            Check.due("13 bit " + k, y.node(k + 1, 4), 0b10110010 >> 7 - k & 1);
        }
    }

    /** "The template of a file is, of those by which it is read without a fault, that with the greatest rank, of several the first one told." */
    private static void chosen() {
        for (int first = 0; first < 10; first++) {
            for (int second = 0; second < 10; second++) {
                HexTemplates x = new HexTemplates();
                Check.template(x, "F{a:b;}", first);
                Check.template(x, "F{a:b;b:b;}", second);
                Check.give(x, 1, 2);
                Check.due("10 ranks " + first + " " + second, x.chosen(), second > first ? 1 : 0);
                Check.give(x, 1);
                Check.due("10 the first alone", x.chosen(), 0);
                Check.give(x);
                Check.due("10 none", x.chosen(), HexTemplates.NONE);
            }
        }
        chosenAlone();
        HexTemplates y = new HexTemplates();
        for (int k = 0; k < 4; k++) {
            Check.template(y, "F{a:b;b:b=" + k + ";}", k == 3 ? 0 : 5);
            Check.give(y, 7, k);
            Check.due("10 the last one told", y.chosen(), k);
            Check.due("10 nodes by it", y.nodes(), 3);
        }
        for (int k = 0; k < 4; k++) {
            y.goTo(k);
            Check.due("10 of state " + k, y.chosen(), k);
            for (int t = 0; t < 4; t++) {
                Check.due("11 of state " + k + " by " + t, y.fault(t, false), t == k ? 0 : HexTemplates.MAGIC);
                Check.due("11 its offset", y.fault(t, true), t == k ? HexTemplates.NONE : 1);
            }
        }
    }

    /** Nodes, relations, references and searches are those of the template of the file, whatever others are told or asked for. */
    private static void chosenAlone() {
        HexTemplates x = new HexTemplates();
        Check.template(x, "F{a:b;r:rG;l:b=#s;s:s(3);x:b;}G{x:b;}", 3);
        Check.template(x, "F{k:b=1;r:rG;l:b=#s;s:s(2);}G{x:w;y:rH;}H{}", 7);
        Check.template(x, "F{c:b;r:rG;l:b=#s;s:s(1);}G{x:b=9;}", 5);
        Check.give(x, 1, 3, 2, 6, 7, 8, 4);
        for (int other = 0; other < 3; other++) {
            for (boolean isOffset : new boolean[] {false, true}) {
                Check.due("11 fine by all", x.fault(other, isOffset), isOffset ? HexTemplates.NONE : HexTemplates.FINE);
                Check.due("10 by the greatest rank", x.chosen(), 1);
                Check.due("12 its nodes", x.nodes(), 5);
                Check.node("13 its first field", x, 1, HexTemplates.NUMBER, 10, 0, 1, 1, 0, 1);
                Check.node("13 its string", x, 4, HexTemplates.STRING, 18, 3, 2, 6, 0, 1);
                Check.due("14 its relation", x.wrong(), 0);
                Check.due("15 its relation", x.wrongByAll(), 0);
                Check.due("16 its reference", x.follow(2), 3);
                Check.due("17 its reference, and the next one", x.chain(2), 2);
                Check.due("12 its nodes behind that", x.nodes(), 5);
                Check.due("19 its fields", x.findField(10, 1, 0), 1);
                Check.due("19 not those of others", x.findField(0, 1, 0) + x.findField(2, 1, 0), 2 * HexTemplates.NONE);
            }
        }
    }

    /** "# how many bytes that has; % how many elements that array has; + the sum of its bytes; ^ these by exclusive or, one by one; all in as many bits as the field has" */
    private static void relations() {
        int[] bytes = {200, 100, 50, 7};
        String[] types = {"b", "w", "W", "rF", "n8", "s(4)", "z", "G", "G[2]", "G[*]", "G[!50]", "G[?1]", "s(0)", "G[0]"};
        int[] lengths = {1, 2, 2, 1, 1, 4, 5, 1, 2, 20, 2, 1, 0, 0};
        for (int k = 0; k < types.length; k++) {
            int sum = 0;
            int xor = 0;
            for (int j = 0; j < lengths[k]; j++) {
                int one = k == 9 && j >= 4 ? 0 : k == 6 && j == 4 ? 0 : bytes[Math.min(j, 3)];
                sum += one;
                xor ^= one;
            }
            boolean isArray = types[k].contains("[");
            for (String type : new String[] {"b", "w", "W"}) {
                int bits = type.equals("b") ? 255 : 65535;
                holds(type, '#', types[k], lengths[k] & bits);
                holds(type, '+', types[k], sum & bits);
                holds(type, '^', types[k], xor & bits);
                if (isArray) {
                    holds(type, '%', types[k], lengths[k]);
                }
            }
        }
        // 160 bytes, each one of 255: 158 * 255 in two bytes, and in one
        int[] all = new int[160];
        java.util.Arrays.fill(all, 255);
        HexTemplates x = Check.with("F{a:w=+s;s:s(100);t:s(58);}", all);
        Check.due("14 a great sum does not hold", x.wrong(), 1);
        Check.due("24 it is put right", x.repair(), 1);
        Check.due("13 it is", x.node(1, 4), 25500);
        HexTemplates y = Check.with("F{a:b=+s;s:s(100);t:s(58);}", all);
        y.repair();
        Check.due("13 in one byte it is", y.node(1, 4), 25500 & 255);
    }

    private static void holds(String type, char sign, String other, int due) {
        int size = type.equals("b") ? 1 : 2;
        for (int off = -1; off <= 1; off++) {
            int value = due + off & (size == 1 ? 255 : 65535);
            int[] bytes = new int[20 + size];
            bytes[0] = type.equals("W") ? value >> 8 : value & 255;
            if (size == 2) {
                bytes[1] = type.equals("W") ? value & 255 : value >> 8;
            }
            bytes[size] = 200;
            bytes[size + 1] = 100;
            bytes[size + 2] = 50;
            bytes[size + 3] = 7;
            HexTemplates x = Check.with("F{a:" + type + "=" + sign + "c;c:" + other + ";}G{x:b;}", bytes);
            String what = type + "=" + sign + " of " + other + " with " + off;
            Check.due("13 " + what, x.node(1, 6), off == 0 ? 1 : 0);
            Check.due("14 " + what, x.wrong(), off == 0 ? 0 : 1);
            Check.due("15 " + what, x.wrongByAll(), off == 0 ? 0 : 1);
        }
    }

    /** Relations in structures that were tried in vain are none, also where these have been read whole. */
    private static void relationsInVain() {
        String inner = "I{l:b=#s;s:s(1);}";
        for (String a : new String[] {"G|H", "G|H[1]", "G|H[?1]", "G|H[!99]", "G|H[*]"}) {
            HexTemplates x = Check.with("F{a:" + a + ";}G{i:I;j:I;x:b=200;}H{x:b;y:b;z:b;u:b;v:b;}" + inner, 9, 9, 9, 9, 9, 99);
            Check.due("14 in vain, " + a, x.wrong(), 0);
            Check.due("15 in vain, " + a, x.wrongByAll(), 0);
            HexTemplates y = Check.with("F{i:I;a:" + a + ";k:I;}G{i:I;j:I;x:b=200;}H{x:b;y:b;z:b;u:b;v:b;}" + inner,
                1, 9, 9, 9, 9, 9, 9, 99, 9);
            Check.due("14 in vain and others, " + a, y.wrong(), 1);
            Check.due("15 in vain and others, " + a, y.wrongByAll(), 1);
        }
        HexTemplates z = Check.with("F{a:G[*];}G{i:I;x:b=200;}" + inner, 7, 7, 200, 1, 7, 200, 7, 7, 9);
        Check.due("14 in the try behind the last element", z.wrong(), 1);
        Check.due("15 in the try behind the last element", z.wrongByAll(), 1);
        HexTemplates e = Check.with("F{a:E[*];b:I;}E{i:E[0];}" + inner, 1, 1);
        Check.due("15 in an empty element", e.wrongByAll() * 10 + e.wrong(), 0);
    }

    /** "To follow a reference is to read its structure at the offset that it tells, in the whole file" */
    private static void follow() {
        String form = "F{r:rG;s:rH;t:rE;u:rI;}G{x:b;}H{x:w;}E{}I{s:s(0);a:G[*];}";
        int size = 20;
        for (int to : new int[] {0, 1, 17, 18, 19, 20, 21, 159, 160, 254, 255}) {
            HexTemplates x = Check.with(form, Check.many(size, to, to, to, to));
            Check.due("16 b at " + to, x.follow(1), to <= 19 ? 1 : HexTemplates.NONE);
            Check.due("16 w at " + to, x.follow(2), to <= 18 ? 2 : HexTemplates.NONE);
            Check.due("16 nothing at " + to, x.follow(3), 0);
            Check.due("16 what is left at " + to, x.follow(4), Math.max(0, size - to));
            Check.due("17 b at " + to, x.chain(1), to <= 19 ? 1 : 0);
            Check.due("17 w at " + to, x.chain(2), to <= 18 ? 1 : 0);
            Check.due("17 nothing at " + to, x.chain(3), 1);
            Check.due("17 what is left at " + to, x.chain(4), 1);
        }
        HexTemplates y = Check.with("F{r:rG;s:rH;t:rJ;}G{x:b=9;}H{s:s(101);}J{a:G[!0];}", 3, 3, 3, 8, 9);
        Check.due("16 MAGIC", y.follow(1), HexTemplates.NONE);
        Check.due("16 COUNT", y.follow(2), HexTemplates.NONE);
        Check.due("16 OUT", y.follow(3), HexTemplates.NONE);
        Check.due("17 MAGIC", y.chain(1), 0);
        // in the whole file: also ahead of the reference, and over what is left behind
        HexTemplates z = Check.with("F{x:b;r:rG;}G{s:s(4);}", 7, 0, 2, 3, 4, 5);
        Check.due("16 ahead", z.follow(2), 4);
        z.set(2, 2);
        Check.due("16 behind", z.follow(2), 4);
        z.set(2, 3);
        Check.due("16 out", z.follow(2), HexTemplates.NONE);
    }

    /** "with nodes counted anew": neither the nodes of the file nor how deep the reference is counts. */
    private static void followAnew() {
        String form = "F{r:rT;a:G[8];b:H[n];}G{x:H[20];}H{}T{a:G[8];b:H[m];}";
        for (int m = 14; m <= 22; m++) {
            // 1 + 1 + 1 + 8 * 22 + 1 nodes of the file without the elements of b; of T 1 + 1 + 8 * 22 + 1, and m
            int nodes = 1 + 1 + 8 * 22 + 1 + m;
            String own = form.replace("[n]", "[20]").replace("[m]", "[" + m + "]");
            HexTemplates x = Check.with(own, 0);
            Check.due("12 of the file", x.nodes(), 200);
            boolean isCount = m > 20;
            Check.due("16 with " + nodes + " nodes", x.follow(1), isCount ? HexTemplates.NONE : 0);
            Check.due("17 with " + nodes + " nodes", x.chain(1), isCount ? 0 : 1);
        }
        String more = "F{r:rT;s:rU;a:G[8];b:H[19];}G{x:H[20];}H{}T{a:G[8];b:H[18];c:H[2];}U{a:G[8];b:H[18];c:H[3];}";
        HexTemplates y = Check.with(more, 0, 0);
        Check.due("16 with 200 nodes", y.follow(1), 0);
        Check.due("16 with 201 nodes", y.follow(2), HexTemplates.NONE);
        Check.due("17 with 200 nodes", y.chain(1), 1);
        Check.due("17 with 201 nodes", y.chain(2), 0);
        Check.due("12 the file's own nodes stay", y.nodes(), 200);
        HexTemplates z = Check.with("A{a:B;}B{a:C;}C{a:D;}D{a:E;}E{a:F;}F{r:rA;s:rB;t:rF;}", 0, 1, 2);
        Check.due("16 as deep as the file, anew", z.follow(6), 3);
        Check.due("16 less deep", z.follow(7), HexTemplates.NONE);
        z.set(7, 0);
        Check.due("16 less deep, from the first byte", z.follow(7), 3);
        HexTemplates w = Check.with("F{r:rA;}A{x:b;a:B;}B{x:b;a:C;}C{x:b;a:D;}D{x:b;a:A[?x-1];}", Check.many(9));
        Check.due("16 not too deep", w.follow(1), 4);
        HexTemplates v = Check.with("F{r:rA;}A{x:b;a:A[x];}", 1, 1, 1, 1, 1, 1, 0, 1, 1, 1, 1, 1, 1, 0);
        Check.due("16 in 5 others", v.follow(1), 6);
        v.set(1, 7);
        Check.due("16 in 6 others", v.follow(1), HexTemplates.NONE);
        v.set(1, 8);
        Check.due("16 in 5 others further on", v.follow(1), 6);
    }

    /** "It loops, if it comes to a Name and offset again at which it was." */
    private static void chain() {
        String form = "F{a:rG;}G{x:rG;}";
        int[] bytes = new int[160];
        for (int k = 0; k < 160; k++) {
            bytes[k] = k + 1;
        }
        Check.due("17 as long as the file", Check.with(form, bytes).chain(1), 159);
        for (int back : new int[] {0, 1, 80, 158, 159}) {
            bytes[159] = back;
            Check.due("17 back to " + back, Check.with(form, bytes).chain(1), HexTemplates.LOOPS);
        }
        bytes[159] = 255;
        Check.due("17 out at the end", Check.with(form, bytes).chain(1), 159);
        // through all Names and offsets: each Name at each offset is another one
        String[] names = {"F", "G", "H", "I", "J", "K"};
        StringBuilder text = new StringBuilder();
        for (int k = 0; k < 6; k++) {
            text.append(names[k]).append("{x:r").append(names[(k + 1) % 6]).append(";}");
        }
        int[] loop = new int[7];
        for (int k = 0; k < 7; k++) {
            loop[k] = (k + 1) % 7;
        }
        Check.due("17 a loop by all Names", Check.with(text.toString(), loop).chain(1), HexTemplates.LOOPS);
        loop[6] = 200;
        Check.due("17 no loop by all Names", Check.with(text.toString(), loop).chain(1), 6);
        HexTemplates same = Check.with(text.toString(), 0);
        Check.due("17 all Names at one offset", same.chain(1), HexTemplates.LOOPS);
        HexTemplates none = Check.with(text.toString().replace("K{x:rF;}", "K{x:b;}"), 0);
        Check.due("17 all Names at one offset, and an end", none.chain(1), 5);
        // a Name at one offset, and another Name at an offset further on: not the same
        for (String other : new String[] {"F{a:A[*];}A{r:rG;}G{x:rF;}", "F{a:A[*];}G{x:rF;}A{r:rG;}"}) {
            for (int to = 0; to < 256; to++) {
                for (int from = 0; from < 4; from++) {
                    // G, F at an offset, and, as F has an array alone, no reference of its own
                    HexTemplates x = Check.with(other, with(from, to));
                    Check.due("17 G at " + from + " to F at " + to, x.chain(11), 2);
                }
            }
        }
        HexTemplates again = Check.with("F{a:A[*];}A{r:rG;}G{x:rF;}", 0, 0, 0);
        for (int k = 0; k < 5; k++) {
            Check.due("17 to F at 0, again", again.chain(3), 2);
        }
        Check.due("17 the Name counts", Check.with("F{a:rG;}G{x:rH;}H{y:rG;}", 1, 1, 9).chain(1), HexTemplates.LOOPS);
        Check.due("17 where the reference is does not count",
            Check.with("F{a:rH;b:rG;}G{r:rF;}H{}", 0, 2, 0).chain(2), 3);
        Check.due("17 a fault ends it", Check.with("F{a:rG;}G{x:b=7;y:rG;}", 1, 7, 3, 8, 1).chain(1), 1);
        // the first reference that is a field of its own
        Check.due("17 behind a structure and an array",
            Check.with("F{a:rG;}G{s:H;t:H[2];x:b;y:rI;z:rF;}H{r:rF;}I{b:b;}", 1, 0, 0, 0, 9, 2, 0).chain(1), 2);
        Check.due("17 not in a structure", Check.with("F{a:rG;}G{s:H;}H{r:rF;}", 0).chain(1), 1);
        Check.due("17 not in an element", Check.with("F{a:rG;}G{s:H[1];}H{r:rF;}", 0).chain(1), 1);
    }

    /** Five references: the one at an offset is to a place, and the last one to that offset. */
    private static int[] with(int offset, int place) {
        int[] all = {9, 9, 9, 9, offset};
        all[offset] = place;
        return all;
    }

    /** "Returns the first offset, from one on, of a byte that is alike in the bits of a mask; NONE if there is none." */
    private static void find() {
        HexTemplates x = Check.with("F{}", 0, 1, 127, 128, 254, 255, 0, 255);
        Check.due("18 255", x.find(255, 255, 0), 5);
        Check.due("18 255 from it on", x.find(255, 255, 5), 5);
        Check.due("18 255 behind it", x.find(255, 255, 6), 7);
        Check.due("18 0", x.find(0, 255, 0), 0);
        Check.due("18 0 from 1 on", x.find(0, 255, 1), 6);
        Check.due("18 254", x.find(254, 255, 0), 4);
        Check.due("18 one bit", x.find(255, 1, 0), 1);
        Check.due("18 the highest bit", x.find(128, 128, 0), 3);
        Check.due("18 not the highest bit", x.find(127, 128, 3), 6);
        Check.due("18 the last one", x.find(255, 255, 7), 7);
        Check.due("18 behind the last one", x.find(255, 255, 8), HexTemplates.NONE);
        Check.due("18 mask 0", x.find(255, 0, 7), 7);
        Check.due("18 mask 0 behind the last one", x.find(255, 0, 8), HexTemplates.NONE);
        HexTemplates y = Check.with("F{}", Check.many(160));
        Check.due("18 159", y.find(1, 255, 159), 159);
        Check.due("18 160", y.find(1, 255, 160), HexTemplates.NONE);
        Check.due("18 200", y.find(1, 255, 200), HexTemplates.NONE);
        Check.due("18 of no file", new HexTemplates().find(0, 0, 0), HexTemplates.NONE);
    }

    /** "Returns the first node, from one on, of a number, reference or bits with a name and a value; NONE if there is none." */
    private static void findField() {
        HexTemplates x = Check.with("F{a:b;b:W;z:rF;e:n4;f:n4;g:s(1);h:A;i:A[2];}A{a:b;}", 0, 255, 255, 255, 0xf0, 5, 5, 5, 6);
        Check.due("19 0", x.findField(0, 0, 0), 1);
        Check.due("19 from it on", x.findField(0, 0, 1), 1);
        Check.due("19 behind it", x.findField(0, 0, 2), HexTemplates.NONE);
        Check.due("19 65535", x.findField(1, 65535, 0), 2);
        Check.due("19 not 65534", x.findField(1, 65534, 0), HexTemplates.NONE);
        Check.due("19 z", x.findField(25, 255, 0), 3);
        Check.due("19 bits", x.findField(4, 15, 0), 4);
        Check.due("19 bits of 0", x.findField(5, 0, 0), 5);
        Check.due("19 no string", x.findField(6, 5, 0), HexTemplates.NONE);
        Check.due("19 no structure", x.findField(7, 0, 0), HexTemplates.NONE);
        Check.due("19 no array", x.findField(8, 2, 0), HexTemplates.NONE);
        Check.due("19 in a structure", x.findField(0, 5, 0), 8);
        Check.due("19 in an element", x.findField(0, 5, 9), 11);
        Check.due("19 the last one", x.findField(0, 6, 13), 13);
        Check.due("19 behind the last one", x.findField(0, 6, 14), HexTemplates.NONE);
        HexTemplates y = Check.with("F{a:G[8];b:H[20];c:b;}G{x:H[20];}H{}", 7);
        Check.due("19 of 199 nodes", y.nodes(), 199 + 1);
        Check.due("19 node 199", y.findField(2, 7, 199), 199);
        Check.due("19 from 200 on", y.findField(2, 7, 200), HexTemplates.NONE);
    }
}
