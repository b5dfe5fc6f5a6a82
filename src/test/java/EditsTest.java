/** Promises 20 to 26: edits and patches. */
public final class EditsTest {
    public static void main(String[] args) {
        set();
        setRelations();
        insert();
        remove();
        references();
        elements();
        elementReferences();
        counts();
        rounds();
        sums();
        repair();
        limits();
        hunk();
        patch();
        patchLimits();
        Check.end();
    }

    private static void set() {
        HexTemplates x = Check.with("F{b:b;w:w;v:W;r:rF;i:n3;j:n4;k:n1;s:s(1);}", 1, 2, 3, 4, 5, 6, 0b10101011, 8, 9);
        Check.due("20 b", x.set(1, 255), 1);
        Check.due("20 w", x.set(2, 0x1234), 2);
        Check.due("20 W", x.set(3, 65535), 3);
        Check.due("20 W again", x.set(3, 0x1234), 4);
        Check.due("20 r", x.set(4, 0), 5);
        Check.due("20 n3", x.set(5, 2), 6);
        Check.due("20 n4", x.set(6, 15), 7);
        Check.due("20 n1", x.set(7, 0), 8);
        Check.due("20 the same value", x.set(7, 0), 9);
        Check.due("7 the state", x.state(), 9);
        Check.due("8 its parent", x.parent(9), 8);
        Check.file("20 all", x, 255, 0x34, 0x12, 0x12, 0x34, 0, 0b01011110, 8, 9);
        Check.state("20 b above", () -> x.set(1, 256));
        Check.state("20 w above", () -> x.set(2, 65536));
        Check.state("20 r above", () -> x.set(4, 256));
        Check.state("20 n3 above", () -> x.set(5, 8));
        Check.state("20 n1 above", () -> x.set(7, 2));
        Check.state("20 below", () -> x.set(1, -1));
        Check.state("20 a string", () -> x.set(8, 1));
        Check.state("20 the whole file", () -> x.set(0, 1));
        Check.index("20 below the nodes", () -> x.set(-1, 1));
        Check.index("20 behind the nodes", () -> x.set(9, 1));
        Check.index("20 the node first", () -> x.set(9, -1));
        Check.due("20 a throw makes no state", x.state(), 9);
        HexTemplates y = Check.with("F{a:A[1];b:A;}A{n:b;}", 1, 2);
        Check.state("20 an array", () -> y.set(1, 1));
        Check.state("20 an element", () -> y.set(2, 1));
        Check.state("20 a structure", () -> y.set(4, 1));
        Check.due("20 in a structure", y.set(5, 9), 1);
        Check.index("20 without a template", () -> new HexTemplates().set(0, 0));
    }

    private static void setRelations() {
        HexTemplates x = Check.with("F{m:b=7;l:b=#s;n:b;s:s(n);c:b=+s;}", 7, 2, 2, 10, 20, 30, 40);
        Check.state("20 an INT", () -> x.set(1, 7));
        Check.state("20 a length", () -> x.set(2, 2));
        Check.state("20 a sum", () -> x.set(5, 30));
        Check.due("20 a number of bytes", x.set(3, 3), 1);
        Check.file("20 the length and the sum follow", x, 7, 3, 3, 10, 20, 30, 60);
        Check.state("20 too many bytes", () -> x.set(3, 4));
        Check.file("20 refused, and as it was", x, 7, 3, 3, 10, 20, 30, 60);
        Check.due("20 none", x.set(3, 0), 2);
        Check.file("20 none of them", x, 7, 0, 0, 0, 20, 30, 60);
    }

    private static void insert() {
        HexTemplates x = Check.with("F{n:b=#s;s:s(n);z:z;e:b;}", 2, 5, 6, 7, 8, 0, 9);
        Check.due("21 ahead", x.insert(2, 0, 0), 1);
        Check.due("21 behind", x.insert(2, 3, 255), 2);
        Check.due("21 within", x.insert(2, 1, 4), 3);
        Check.file("21 s", x, 5, 0, 4, 5, 6, 255, 7, 8, 0, 9);
        Check.due("21 ahead of z", x.insert(3, 0, 1), 4);
        Check.due("21 behind z", x.insert(3, 3, 2), 5);
        Check.file("21 z", x, 5, 0, 4, 5, 6, 255, 1, 7, 8, 2, 0, 9);
        Check.state("21 behind its end", () -> x.insert(3, 5, 1));
        Check.state("21 0 in z", () -> x.insert(3, 0, 0));
        Check.state("21 place below", () -> x.insert(2, -1, 0));
        Check.state("21 place above", () -> x.insert(2, 6, 0));
        Check.state("21 a number", () -> x.insert(1, 0, 0));
        Check.state("21 the whole file", () -> x.insert(0, 0, 0));
        Check.argument("21 value below", () -> x.insert(2, 0, -1));
        Check.argument("21 value above", () -> x.insert(2, 0, 256));
        Check.argument("21 value ahead of what it is", () -> x.insert(0, -9, 256));
        Check.index("21 no node", () -> x.insert(5, 0, 0));
        Check.index("21 node ahead of value", () -> x.insert(-1, 0, 256));
        Check.due("21 no state more", x.state(), 5);
        HexTemplates y = Check.with("F{s:s(2);e:b=7;}", 1, 2, 7);
        Check.state("21 the rest does not fit", () -> y.insert(1, 1, 9));
        Check.due("21 it does", y.insert(1, 2, 7), 1);
        Check.file("21 a byte is left behind", y, 1, 2, 7, 7);
        HexTemplates z = Check.with("F{n:b=#s;s:s(n);}", 0);
        Check.due("21 into an empty one", z.insert(2, 0, 8), 1);
        Check.file("21 no more empty", z, 1, 8);
    }

    private static void remove() {
        HexTemplates x = Check.with("F{n:b=#s;s:s(n);z:z;e:b;}", 3, 4, 5, 6, 7, 8, 0, 9);
        Check.due("22 the last one", x.remove(2, 2), 1);
        Check.due("22 the first one", x.remove(2, 0), 2);
        Check.file("22 s", x, 1, 5, 7, 8, 0, 9);
        Check.due("22 the last one of z", x.remove(3, 1), 3);
        Check.file("22 z", x, 1, 5, 7, 0, 9);
        Check.state("22 its end", () -> x.remove(3, 1));
        Check.state("22 place below", () -> x.remove(2, -1));
        Check.state("22 place above", () -> x.remove(2, 1));
        Check.state("22 a number", () -> x.remove(1, 0));
        Check.state("22 the whole file", () -> x.remove(0, 0));
        Check.index("22 no node", () -> x.remove(5, 0));
        Check.index("22 below", () -> x.remove(-1, 0));
        Check.due("22 the only one", x.remove(2, 0), 4);
        Check.file("22 empty", x, 0, 7, 0, 9);
        Check.state("22 of none", () -> x.remove(2, 0));
        HexTemplates y = Check.with("F{s:s(2);}", 1, 2);
        Check.state("22 bytes are missing", () -> y.remove(1, 0));
    }

    private static void references() {
        String form = "F{a:rF;b:rF;c:rF;d:rF;n:b=#s;s:s(n);}";
        HexTemplates x = Check.with(form, 0, 5, 6, 200, 2, 8, 9);
        Check.due("21 with references", x.insert(6, 1, 7), 1);
        Check.file("21 from the place on", x, 0, 5, 7, 201, 3, 8, 7, 9);
        x.goTo(0);
        x.insert(6, 0, 7);
        Check.file("21 at the place", x, 0, 6, 7, 201, 3, 7, 8, 9);
        x.goTo(0);
        Check.due("22 with references", x.remove(6, 0), 3);
        Check.file("22 at the place it stays", x, 0, 5, 5, 199, 1, 9);
        HexTemplates y = Check.with(form, 255, 0, 0, 0, 1, 8);
        Check.state("21 above 255", () -> y.insert(6, 0, 7));
        Check.due("22 below 255", y.remove(6, 0), 1);
        Check.due("22 it is less", y.byteAt(0), 254);
        Check.due("21 to 255", y.insert(6, 0, 7), 2);
        Check.due("21 it is 255", y.byteAt(0), 255);
    }

    private static void elements() {
        HexTemplates x = Check.with("F{n:b=%a;l:b=#a;a:A[n];c:b=+a;}A{k:b=#s;s:s(k);}", 2, 5, 1, 7, 2, 8, 9, 27);
        Check.due("23 the first one doubled", x.element(3, 0, true), 1);
        Check.file("23 doubled", x, 3, 7, 1, 7, 1, 7, 2, 8, 9, 35);
        Check.due("23 the last one doubled", x.element(3, 2, true), 2);
        Check.file("23 doubled at the end", x, 4, 10, 1, 7, 1, 7, 2, 8, 9, 2, 8, 9, 54);
        Check.due("23 taken out", x.element(3, 1, false), 3);
        Check.due("23 taken out again", x.element(3, 2, false), 4);
        Check.file("23 as it was", x, 2, 5, 1, 7, 2, 8, 9, 27);
        Check.state("23 place below", () -> x.element(3, -1, true));
        Check.state("23 place above", () -> x.element(3, 2, true));
        Check.state("23 a number", () -> x.element(1, 0, true));
        Check.state("23 the whole file", () -> x.element(0, 0, false));
        Check.state("23 an element", () -> x.element(4, 0, false));
        Check.state("23 a string", () -> x.element(6, 0, false));
        Check.index("23 no node", () -> x.element(11, 0, true));
        Check.index("23 below", () -> x.element(-1, 0, true));
        x.element(3, 0, false);
        Check.due("23 all taken out", x.element(3, 0, false), 6);
        Check.file("23 none left", x, 0, 0, 0);
        Check.state("23 of none", () -> x.element(3, 0, false));
        HexTemplates all = Check.with("F{a:A[*];}A{b:b;c:b;}", 1, 2, 3, 4);
        all.element(1, 0, true);
        Check.file("23 of *", all, 1, 2, 1, 2, 3, 4);
        HexTemplates end = Check.with("F{a:A[!9];}A{b:b;c:b;}", 1, 2, 9);
        end.element(1, 0, true);
        Check.file("23 of !", end, 1, 2, 1, 2, 9);
        end.element(1, 1, false);
        end.element(1, 0, false);
        Check.file("23 of ! to none", end, 9);
        HexTemplates one = Check.with("F{n:b=%a;a:A[?n];}A{b:b;}", 1, 2);
        Check.due("23 of ?", one.element(2, 0, true), 1);
        Check.file("23 ? has one alone", one, 1, 2, 2);
        one.element(2, 0, false);
        Check.file("23 ? has none", one, 0, 2);
        HexTemplates empty = Check.with("F{n:b=%a;a:E[n];}E{}", 19);
        Check.due("23 an empty one", empty.element(2, 5, true), 1);
        Check.file("23 is counted", empty, 20);
        Check.state("23 not more than 20", () -> empty.element(2, 5, true));
        empty.element(2, 19, false);
        Check.file("23 an empty one is taken out", empty, 19);
    }

    private static void elementReferences() {
        String form = "F{r:rF;s:rF;n:b=%a;a:A[n];}A{q:rA;b:b;c:b;}";
        HexTemplates x = Check.with(form, 3, 6, 2, 4, 1, 2, 6, 3, 4);
        x.element(4, 0, true);
        Check.file("23 references ahead of it", x, 3, 9, 3, 4, 1, 2, 4, 1, 2, 9, 3, 4);
        HexTemplates y = Check.with(form, 3, 6, 2, 7, 1, 2, 6, 3, 4);
        y.element(4, 0, true);
        // the reference in the element is moved first, and then doubled
        Check.file("23 a reference in it", y, 3, 9, 3, 10, 1, 2, 10, 1, 2, 9, 3, 4);
        HexTemplates z = Check.with(form, 4, 6, 3, 5, 1, 2, 9, 3, 4, 8, 5, 6);
        z.element(4, 0, false);
        Check.file("23 into what is taken out", z, 3, 3, 2, 6, 3, 4, 5, 5, 6);
        HexTemplates w = Check.with(form, 3, 2, 1, 3, 1, 2);
        w.element(4, 0, false);
        Check.file("23 at and ahead of what is taken out", w, 3, 2, 0);
        HexTemplates far = Check.with(form, 253, 2, 1, 3, 1, 2);
        Check.state("23 above 255", () -> far.element(4, 0, true));
    }

    private static void counts() {
        // the length of what has the string in it is told in all structures around it
        HexTemplates x = Check.with("F{l:W=#b;b:B;c:w=+b;}B{m:b=#a;n:b=%a;a:C[n];d:b=^a;}C{k:b=#s;s:s(k);}",
            0, 7, 4, 2, 1, 5, 1, 6, 3, 22, 0);
        Check.due("14 as it should be", x.wrong(), 0);
        Check.due("21 nested", x.insert(11, 1, 9), 1);
        Check.file("21 all around follows", x, 0, 8, 5, 2, 1, 5, 2, 6, 9, 9 ^ 1 ^ 5 ^ 2 ^ 6,
            5 + 2 + 1 + 5 + 2 + 6 + 9 + (9 ^ 1 ^ 5 ^ 2 ^ 6), 0);
        x.element(5, 0, false);
        Check.file("23 nested", x, 0, 6, 3, 1, 2, 6, 9, 13, 34, 0);
        HexTemplates y = Check.with("F{n:b;l:b=#s;s:s(n);m:b=%a;a:A[n];}A{c:b;}", 1, 1, 9, 1, 8, 7, 7);
        Check.due("20 two counts", y.set(1, 2), 1);
        Check.file("20 two follow", y, 2, 2, 9, 1, 2, 7, 7);
    }

    private static void rounds() {
        String inner = "B{a:b;b:b=#g;c:b=#f;d:b=#e;g:s(a);f:s(b);e:s(c);i:s(d);}";
        int[] zeros = new int[40];
        HexTemplates x = Check.with("F{x:b=#y;y:B;}" + inner, zeros);
        Check.due("24 at once", x.repair(), 1);
        // b, c, d and the length around them are right only behind the fourth time
        Check.due("20 four times", x.set(3, 2), 2);
        Check.file("20 all are right", x, first(40, 12, 2, 2, 2, 2));
        HexTemplates y = Check.with("F{w:b=#t;x:b=#y;y:B;t:s(x);}" + inner, zeros);
        Check.due("24 once", y.repair(), 1);
        Check.file("24 by a length", y, first(40, 4, 4));
        Check.state("20 five times", () -> y.set(4, 2));
        Check.due("20 refused", y.state(), 1);
        // the length of the structure with the string is told ahead of the four times
        HexTemplates ahead = Check.with("F{w:b=#z;x:b=#y;y:Y;z:s(x);}"
            + "Y{l:b=#a;b:b=#t;c:b=#u;d:b=#v;a:A;t:s(l);u:s(b);v:s(c);}A{s:z;}", first(60, 8, 8, 1, 1, 1, 1));
        Check.due("14 all are right", ahead.wrong(), 0);
        Check.due("21 four times behind a length", ahead.insert(9, 0, 5), 1);
        Check.file("21 all are right", ahead, first(61, 12, 12, 2, 2, 2, 2, 5));
        HexTemplates z = Check.with("F{n:b=#s;s:s(n+1);}", zeros);
        Check.state("24 never", z::repair);
        HexTemplates c = Check.with("F{n:b=#s;s:s(n*0+100);}", Check.many(102));
        Check.due("24 once more", c.repair(), 1);
        Check.due("24 the length", c.byteAt(0), 100);
        HexTemplates out = Check.with("F{n:b=#t;s:s(n);t:s(3);}", 0, 1, 2, 3);
        Check.state("24 a fault behind a length", out::repair);
    }

    private static int[] first(int count, int... first) {
        int[] all = new int[count];
        System.arraycopy(first, 0, all, 0, first.length);
        return all;
    }

    private static void sums() {
        HexTemplates x = Check.with("F{a:b=+b;b:b=^c;c:B;d:w=+c;}B{x:b=+y;y:s(2);}", 1, 1, 1, 200, 100, 1, 1);
        Check.due("24 sums", x.repair(), 1);
        int sum = 300 - 256;
        int xor = sum ^ 200 ^ 100;
        Check.file("24 inner ones first", x, xor, xor, sum, 200, 100, (300 + sum) & 255, (300 + sum) >> 8);
        HexTemplates y = Check.with("F{a:b=+b;b:b=+a;}", 3, 3);
        Check.state("24 none is the first", y::repair);
        HexTemplates z = Check.with("F{a:b=+b;b:B;}B{a:b=^b;b:b=^a;}", 3, 3, 3);
        Check.state("24 none within", z::repair);
        HexTemplates l = Check.with("F{l:b=#s;c:b=+l;s:s(3);}", 0, 0, 7, 7, 7);
        l.repair();
        Check.file("24 lengths ahead of sums", l, 3, 3, 7, 7, 7);
        HexTemplates n = Check.with("F{c:b=+s;a:A[c];s:s(1);}A{}", 0, 5);
        Check.due("24 a sum that is a count", n.repair(), 1);
        Check.due("24 its elements", n.node(2, 4), 5);
        HexTemplates m = Check.with("F{c:b=+s;s:s(1);t:s(c);}", 0, 5, 1, 2, 3);
        Check.state("24 a fault behind a sum", m::repair);
        HexTemplates r = Check.with("F{l:b=#t;c:b=+s;s:s(1);t:s(c);}", 0, 0, 2, 1, 2, 3);
        Check.state("24 a length is wrong behind a sum", r::repair);
        HexTemplates w = Check.with("F{c:w=^s;d:W=^s;s:s(2);}", 9, 9, 9, 9, 3, 5);
        w.repair();
        Check.file("24 ^ of bytes, one by one", w, 6, 0, 0, 6, 3, 5);
    }

    private static void repair() {
        HexTemplates x = new HexTemplates();
        Check.state("24 nothing", x::repair);
        Check.give(x, 1);
        Check.state("24 without a template", x::repair);
        Check.template(x, "F{a:b;}", 0);
        Check.due("24 nothing wrong", x.repair(), 1);
        Check.due("8 its parent", x.parent(1), 0);
        HexTemplates y = new HexTemplates();
        Check.template(y, "F{}", 0);
        Check.due("24 the empty file", y.repair(), 0);
        Check.due("8 without a parent", y.parent(0), HexTemplates.NONE);
        HexTemplates z = Check.with("F{n:b=%a;l:b=#n;a:A[2];}A{m:b=#s;s:s(1);}", 9, 9, 9, 9, 9, 9);
        Check.due("14 all wrong", z.wrong(), 4);
        Check.due("24 all put right", z.repair(), 1);
        Check.file("24 right", z, 2, 1, 1, 9, 1, 9);
        Check.due("14 none wrong", z.wrong(), 0);
        HexTemplates w = Check.with("F{a:b;n:b=#s;s:s(2);}", 1, 9, 5, 5);
        Check.due("20 puts right what was wrong", w.set(1, 7), 1);
        Check.file("20 right", w, 7, 2, 5, 5);
    }

    private static void limits() {
        HexTemplates x = Check.with("F{z:z;s:s(1);}", Check.many(160, 1, 0, 5));
        Check.state("21 161 bytes", () -> x.insert(1, 0, 1));
        Check.due("22 159 bytes", x.remove(1, 0), 1);
        Check.due("21 160 bytes", x.insert(1, 0, 1), 2);
        HexTemplates d = Check.with("F{a:A[*];}A{s:s(81);}", Check.many(100));
        Check.state("23 181 bytes", () -> d.element(1, 0, true));
        HexTemplates y = Check.with("F{s:s(1);}", 1);
        for (int k = 1; k < 30; k++) {
            y.repair();
        }
        Check.due("7 30 states", y.state(), 29);
        Check.state("20 31", () -> Check.with("F{}").repair() + y.repair());
        Check.state("24 31", y::repair);
        Check.state("21 31", () -> y.insert(1, 0, 1));
        Check.state("26 31", () -> y.patch(0, 0));
        Check.state("3 31", y::give);
        Check.index("21 the node first", () -> y.insert(2, 0, 1));
        Check.argument("21 the argument first", () -> y.insert(1, 0, 256));
        Check.index("26 the state first", () -> y.patch(0, 30));
        Check.due("9 go", y.goTo(0), 1);
        Check.state("24 31 from 0", y::repair);
        HexTemplates z = Check.with("F{b:b;}", 1);
        Check.template(z, "F{b:b=2;c:b;}", 9);
        Check.give(z, 1, 3);
        Check.due("10 before", z.chosen(), 0);
        z.set(1, 2);
        Check.due("10 another template fits behind an edit", z.chosen(), 1);
        Check.due("12 and has its nodes", z.nodes(), 3);
    }

    private static void hunk() {
        HexTemplates x = new HexTemplates();
        Check.give(x, 1, 2, 3, 4, 5);
        Check.give(x, 1, 2, 9, 5);
        Check.give(x);
        Check.give(x, 7, 7, 7);
        Check.give(x, 7, 7, 7, 7, 7);
        hunk(x, 0, 1, 2, 2, 1);
        hunk(x, 1, 0, 2, 1, 2);
        hunk(x, 0, 0, 5, 0, 0);
        hunk(x, 0, 2, 0, 5, 0);
        hunk(x, 2, 0, 0, 0, 5);
        hunk(x, 3, 4, 3, 0, 2);
        hunk(x, 4, 3, 3, 2, 0);
        hunk(x, 0, 3, 0, 5, 3);
        Check.index("25 from", () -> x.hunk(5, 0, 0));
        Check.index("25 to", () -> x.hunk(0, 5, 0));
        Check.index("25 from below", () -> x.hunk(-1, 0, 0));
        Check.index("25 to below", () -> x.hunk(0, -1, 9));
        Check.argument("25 what below", () -> x.hunk(0, 0, -1));
        Check.argument("25 what above", () -> x.hunk(0, 0, 3));
    }

    private static void hunk(HexTemplates x, int from, int to, int offset, int taken, int put) {
        Check.due("25 offset " + from + " " + to, x.hunk(from, to, 0), offset);
        Check.due("25 first " + from + " " + to, x.hunk(from, to, 1), taken);
        Check.due("25 second " + from + " " + to, x.hunk(from, to, 2), put);
    }

    private static HexTemplates two(int[] first, int[] second, int... file) {
        HexTemplates x = new HexTemplates();
        Check.give(x, first);
        Check.give(x, second);
        Check.give(x, file);
        return x;
    }

    private static int[] row(int... bytes) {
        return bytes;
    }

    private static void patch() {
        int[] a = row(1, 2, 3, 4, 5, 6, 7);
        int[] b = row(1, 2, 3, 8, 8, 5, 6, 7);
        HexTemplates x = two(a, b, a);
        Check.due("26 its own file", x.patch(0, 1), 3);
        Check.file("26 made", x, b);
        Check.due("8 its parent", x.parent(3), 2);
        Check.due("26 back", x.patch(1, 0), 4);
        Check.file("26 back again", x, a);
        HexTemplates moved = two(a, b, 9, 9, 2, 3, 4, 5, 6);
        Check.due("26 further on, 2 bytes ahead and behind", moved.patch(0, 1), 3);
        Check.file("26 moved", moved, 9, 9, 2, 3, 8, 8, 5, 6);
        Check.state("26 not ahead", () -> two(a, b, 1, 9, 3, 4, 5, 6, 7).patch(0, 1));
        Check.state("26 not behind", () -> two(a, b, 1, 2, 3, 4, 5, 9, 7).patch(0, 1));
        Check.state("26 no bytes behind the file", () -> two(row(5, 1, 0), row(6, 1, 0), 5, 1).patch(0, 1));
        Check.state("26 not these bytes", () -> two(a, b, 1, 2, 3, 9, 5, 6, 7).patch(0, 1));
        Check.state("26 cut off ahead", () -> two(a, b, 3, 4, 5, 6, 7).patch(0, 1));
        Check.state("26 cut off behind", () -> two(a, b, 1, 2, 3, 4, 5).patch(0, 1));
        HexTemplates near = two(row(5, 5, 5, 1), row(5, 5, 5, 2), 5, 5, 1, 5, 5, 1);
        near.patch(0, 1);
        Check.file("26 of two as near the lower one", near, 5, 5, 2, 5, 5, 1);
        HexTemplates upper = two(row(0, 0, 5, 5, 1), row(0, 0, 5, 5, 2), 5, 5, 1, 5, 5, 1);
        upper.patch(0, 1);
        Check.file("26 the nearer one above", upper, 5, 5, 1, 5, 5, 2);
        HexTemplates start = two(row(1, 2, 3, 4), row(9, 2, 3, 4), 7, 7, 1, 2, 3);
        start.patch(0, 1);
        Check.file("26 none ahead in the first state", start, 7, 7, 9, 2, 3);
        HexTemplates end = two(row(1, 2, 3, 4), row(1, 2, 3, 9), 2, 3, 4, 7);
        end.patch(0, 1);
        Check.file("26 none behind in the first state", end, 2, 3, 9, 7);
        HexTemplates put = two(row(1, 2, 3, 4), row(1, 2, 9, 3, 4), 0, 1, 2, 3, 4);
        put.patch(0, 1);
        Check.file("26 put in alone", put, 0, 1, 2, 9, 3, 4);
        HexTemplates empty = two(row(), row(8), 5, 6);
        empty.patch(0, 1);
        Check.file("26 an empty state fits anywhere", empty, 8, 5, 6);
        HexTemplates same = two(row(1, 2), row(1, 2), 0, 1, 2);
        Check.due("26 no change", same.patch(0, 1), 3);
        Check.file("26 as it was", same, 0, 1, 2);
        Check.state("26 no change does not fit", () -> two(row(1, 2), row(1, 2), 0, 1).patch(0, 1));
    }

    private static void patchLimits() {
        HexTemplates x = two(row(1), row(1, 2), Check.many(160));
        Check.state("26 161 bytes", () -> x.patch(0, 1));
        Check.due("26 fewer bytes", two(row(1, 1), row(1), Check.many(160)).patch(0, 1), 3);
        HexTemplates y = two(row(1), row(1, 2), Check.many(159));
        Check.due("26 160 bytes", y.patch(0, 1), 3);
        Check.due("5 160 bytes", y.size(), 160);
        Check.index("26 from", () -> y.patch(4, 0));
        Check.index("26 to", () -> y.patch(0, 4));
        Check.index("26 below", () -> y.patch(-1, 0));
        Check.index("26 to below", () -> y.patch(0, -1));
        Check.template(y, "F{a:b=9;}", 0);
        y.goTo(0);
        Check.due("26 no template is asked for", y.patch(0, 1), 4);
        Check.index("26 without states", () -> new HexTemplates().patch(0, 0));
        Check.due("26 refused changes nothing", x.size() * 100 + x.state(), 16002);
    }
}
