/** Promises 1 to 9: the new object, the tape, files and states, and what is a template. */
public final class StatesTest {
    public static void main(String[] args) {
        newObject();
        feed();
        give();
        template();
        goodTemplates();
        noTemplates();
        size();
        states();
        tapeStays();
        longFiles();
        calls();
        Check.end();
    }

    private static void newObject() {
        HexTemplates x = new HexTemplates();
        Check.due("1 size", x.size(), 0);
        Check.due("1 state", x.state(), HexTemplates.NONE);
        Check.due("1 chosen", x.chosen(), HexTemplates.NONE);
        Check.due("1 nodes", x.nodes(), 0);
        Check.due("1 wrong", x.wrong(), 0);
        Check.due("1 wrongByAll", x.wrongByAll(), 0);
        Check.index("1 parent", () -> x.parent(0));
        Check.index("1 goTo", () -> x.goTo(0));
        Check.index("1 byteAt", () -> x.byteAt(0));
        Check.index("1 fault", () -> x.fault(0, false));
        Check.state("1 repair", x::repair);
        Check.due("1 feed", x.feed(7, 1), 1);
        HexTemplates y = new HexTemplates();
        Check.template(y, "F{}", 0);
        Check.due("1 the empty file is read", y.chosen(), 0);
        Check.due("1 and has a node", y.nodes(), 1);
    }

    private static void feed() {
        HexTemplates x = new HexTemplates();
        Check.argument("2 n = 0", () -> x.feed(1, 0));
        Check.argument("2 n = 9", () -> x.feed(1, 9));
        Check.argument("2 n = -1", () -> x.feed(1, -1));
        Check.due("2 one", x.feed(0x1ffL, 1), 1);
        Check.due("2 eight", x.feed(-2L, 8), 9);
        Check.due("2 two", x.feed(0x990201L, 2), 11);
        x.give();
        Check.file("2 lowest first", x, 255, 254, 255, 255, 255, 255, 255, 255, 255, 1, 2);
        for (int k = 0; k < 24; k++) {
            x.feed(k, 8);
        }
        Check.state("2 too many", () -> x.feed(0, 8 + 1 - 1) + x.feed(0, 1));
        Check.state("2 too many again", () -> x.feed(0, 1));
        Check.argument("2 the argument first", () -> x.feed(0, 0));
        HexTemplates y = new HexTemplates();
        Check.feed(y, Check.many(199));
        Check.state("2 one too many", () -> y.feed(0, 2));
        Check.due("2 the last one", y.feed(0, 1), 200);
    }

    private static void give() {
        HexTemplates x = new HexTemplates();
        Check.due("3 an empty file", x.give(), 0);
        Check.due("3 160 bytes", Check.give(x, Check.many(160)), 1);
        Check.due("3 its size", x.size(), 160);
        Check.state("3 161 bytes", () -> Check.give(x, Check.many(161)));
        Check.due("3 the tape is used up", x.feed(5, 1), 1);
        Check.due("3 the file stays", x.size(), 160);
        Check.due("3 the state stays", x.state(), 1);
        for (int k = 2; k < 30; k++) {
            Check.due("3 state", x.give(), k);
        }
        Check.state("3 31 states", () -> Check.give(x, 1, 2));
        Check.due("3 the tape is used up at 30", x.feed(5, 1), 1);
        Check.due("3 at 30", x.state(), 29);
        Check.due("3 the file at 30", x.size(), 0);
    }

    private static void template() {
        HexTemplates x = new HexTemplates();
        Check.state("4 empty", () -> x.template(0));
        Check.feed(x, "F{a:b;}");
        Check.argument("4 rank -1", () -> x.template(-1));
        Check.argument("4 rank 10", () -> x.template(10));
        Check.due("4 the tape is still there", x.template(9), 0);
        Check.state("4 and is used up", () -> x.template(0));
        Check.due("4 rank 0", Check.template(x, "F{}", 0), 1);
        Check.state("4 none", () -> Check.template(x, "F{a:b}", 0));
        Check.due("4 used up by none", x.feed(1, 1), 1);
        x.give();
        Check.due("4 third", Check.template(x, "F{}", 0), 2);
        Check.due("4 fourth", Check.template(x, "F{}", 0), 3);
        Check.state("4 fifth", () -> Check.template(x, "F{}", 0));
        Check.argument("4 fifth, rank first", () -> x.template(10));
        Check.due("4 used up by a fifth", x.feed(1, 1), 1);
        HexTemplates again = new HexTemplates();
        for (int k = 0; k < 60; k++) {
            Check.state("4 none", () -> Check.template(again, "F{a:b;b:s(1+1+1);c:n3;d:A|A|A;", 0));
        }
        Check.due("4 what was none leaves nothing", Check.template(again, "F{a:b=#b;b:s(1+1-2+1);c:n3;d:n5;e:A;}A{a:b;}", 0), 0);
        HexTemplates y = Check.with("F{a:b;}", 1);
        Check.state("4 none behind one", () -> Check.template(y, "F{c:b;d:b;e:b;", 9));
        Check.due("4 the first one stays", y.nodes(), 2);
        Check.index("4 none has no number", () -> y.fault(1, false));
    }

    private static boolean isTemplate(String text) {
        HexTemplates x = new HexTemplates();
        Check.feed(x, text);
        try {
            x.template(0);
            return true;
        } catch (IllegalStateException e) {
            return false;
        }
    }

    private static void goodTemplates() {
        String[] good = {"F{}", "Z{a:b;}", "A{a:b;}B{a:b;}C{}D{}E{}F{}", "F{a:b;b:b;c:b;d:b;e:b;f:b;g:b;h:b;}",
            "F{a:b;b:w;w:W;r:rF;n:n8;s:s(9);z:z;}", "F{a:F[*];}", "F{a:G|F|G[!999];}G{}", "F{a:G[?1];}G{}",
            "F{a:b;b:s(a*2-3+a);}", "F{a:n1;b:n7;c:s(a+b);}", "F{a:n4;b:n4;c:n8;d:n7;e:n1;}", "F{a:rF;b:s(a);}",
            "F{a:b=999;b:w=0;c:W=007;}", "F{a:b=#b;b:s(a);}", "F{a:b=+b;b:w=^a;}", "F{a:b=%b;b:F[a];}",
            "F{b:F[2];a:b=%b;}", "F{a:G;}G{a:rF;}", "F{z:b;a:s(z);}", "F{a:n8;b:b=#a;}", "F{a:s(000);}"};
        for (String text : good) {
            Check.due("4 " + text, isTemplate(text) ? 1 : 0, 1);
        }
    }

    private static void noTemplates() {
        String[] bad = {"F", "F{", "F{a", "F{a:", "F{a:b", "F{a:b;", "{a:b;}", "f{a:b;}", "W{a:b;}", "F{A:b;}", "F{a:b;}}",
            "F{a:b;} ", " F{a:b;}", "F{ a:b;}", "F{a:b;}x", "F{a:b;}F{}", "F{a:b;a:b;}", "F{a:x;}", "F{a:;}", "F{:b;}",
            "A{}B{}C{}D{}E{}F{}G{}", "F{a:b;b:b;c:b;d:b;e:b;f:b;g:b;h:b;i:b;}", "F{a:n0;}", "F{a:n9;}", "F{a:n7;}",
            "F{a:n3;b:b;c:n5;}", "F{a:n5;b:n5;c:n6;}", "F{a:n3;b:F[0];c:n5;}", "F{a:n;}", "F{a:s;}", "F{a:s();}",
            "F{a:s(1;}", "F{a:s(1);", "F{a:s(1234);}", "F{a:s(1+);}", "F{a:s(+1);}", "F{a:s(1/2);}", "F{a:s(a);}",
            "F{a:s(b);b:b;}", "F{a:s(b);}", "F{z:z;a:s(z);}", "F{a:F[0];b:s(a);}", "F{s:s(1);a:F[s];}", "F{a:G;}",
            "F{a:rG;}", "F{a:r;}", "F{a:rW;}", "F{a:rb;}", "F{a:F|G[1];}", "F{a:F|;}", "F{a:|F;}", "F{a:F[];}",
            "F{a:F[!];}", "F{a:F[!1234];}", "F{a:F[!b];}", "F{a:F[?];}", "F{a:F[*1];}", "F{a:F[1}", "F{a:b[2];}",
            "F{a:b=;}", "F{a:b=1234;}", "F{a:b=b;b:b;}", "F{a:b=#a;}", "F{a:b=#b;}", "F{a:b=#;}", "F{a:b=-1;}",
            "F{a:b=%b;b:b;}", "F{a:b=%b;b:F;}", "F{a:b=%b;b:s(1);}", "F{a:n8=1;}", "F{a:rF=1;}", "F{a:z=1;}",
            "F{a:s(1)=1;}", "F{a:F=1;}", "F{a:b==1;}", "F{a:b=*b;b:b;}", "F{a:b,}", "F(a:b;)", "F{a:bb;}", "F{a:b;;}",
            "F{a:W[2];}", "F{{:b;}", "F{`:b;}", "[{a:b;}", "@{a:b;}", "F{a:[;}", "F{a:r@;}", "F{a:s(/);}", "F{a:s(:);}",
             "F{a:F|W;}", "F{a:b=#B;B:b;}", "F{a:s(A);}", "F{a:n8;b:n4;}", "F{a:b=1+1;}"};
        for (String text : bad) {
            Check.due("4 " + text, isTemplate(text) ? 1 : 0, 0);
        }
        for (int k = 128; k < 256; k++) {
            Check.due("4 sign " + k, isTemplate("F{" + (char) k + ":b;}") ? 1 : 0, 0);
        }
    }

    private static void size() {
        HexTemplates x = new HexTemplates();
        Check.give(x, 255, 0, 7);
        Check.due("5 size", x.size(), 3);
        Check.due("6 first", x.byteAt(0), 255);
        Check.due("6 last", x.byteAt(2), 7);
        Check.index("6 behind", () -> x.byteAt(3));
        Check.index("6 ahead", () -> x.byteAt(-1));
        Check.index("6 far", () -> x.byteAt(Integer.MAX_VALUE));
        Check.due("5 the next file", Check.give(x) + x.size(), 1);
        Check.index("6 of an empty file", () -> x.byteAt(0));
    }

    private static void states() {
        HexTemplates x = new HexTemplates();
        Check.give(x, 1);
        Check.give(x, 1, 2);
        Check.due("7 state", x.state(), 1);
        Check.due("8 parent of 0", x.parent(0), HexTemplates.NONE);
        Check.due("8 parent of 1", x.parent(1), 0);
        Check.due("9 size there", x.goTo(0), 1);
        Check.due("7 state behind goTo", x.state(), 0);
        Check.due("3 a file there", Check.give(x, 9, 9, 9), 2);
        Check.due("8 has it as its parent", x.parent(2), 0);
        Check.due("9 back", x.goTo(1), 2);
        Check.due("6 its bytes", x.byteAt(1), 2);
        Check.due("9 to where one is", x.goTo(1), 2);
        Check.index("8 too far", () -> x.parent(3));
        Check.index("8 below", () -> x.parent(-1));
        Check.index("9 too far", () -> x.goTo(3));
        Check.index("9 below", () -> x.goTo(HexTemplates.NONE));
        Check.due("7 state behind a throw", x.state(), 1);
        Check.template(x, "F{a:b;b:b;c:b;}", 0);
        Check.due("9 no template fits", x.chosen(), HexTemplates.NONE);
        x.goTo(2);
        Check.due("9 a template fits there", x.chosen(), 0);
        Check.due("23 an edit", x.set(1, 5), 3);
        Check.due("8 its parent", x.parent(3), 2);
        x.goTo(2);
        Check.file("9 the state stays as it was", x, 9, 9, 9);
    }

    /** "who takes it over uses it up": give and template alone, whatever else is called. */
    private static void tapeStays() {
        HexTemplates x = Check.with("F{n:b=#s;s:s(n);a:A[!9];e:b;r:rF;}A{x:b;}", 2, 5, 6, 7, 8, 9, 0);
        Check.due("2 on the tape", x.feed(0x131211, 3), 3);
        Check.Call[] calls = {x::size, x::state, x::chosen, x::nodes, x::wrong, x::wrongByAll, x::repair, () -> x.byteAt(0),
            () -> x.parent(0), () -> x.goTo(0), () -> x.fault(0, false), () -> x.node(0, 0), () -> x.follow(9),
            () -> x.chain(9), () -> x.find(1, 1, 0), () -> x.findField(0, 0, 0), () -> x.set(9, 0), () -> x.insert(2, 0, 1),
            () -> x.remove(2, 0), () -> x.element(3, 0, true), () -> x.element(3, 0, false), () -> x.hunk(0, 1, 0),
            () -> x.patch(0, 1)};
        for (int k = 0; k < calls.length; k++) {
            Check.due("2 call " + k + " throws nothing", calls[k].answer() >= HexTemplates.LOOPS ? 1 : 0, 1);
            Check.due("2 the tape behind call " + k, x.feed(0x20 + k, 1), 4 + k);
        }
        int[] due = new int[3 + calls.length];
        for (int k = 0; k < due.length; k++) {
            due[k] = k < 3 ? 0x11 + k : 0x20 + k - 3;
        }
        x.give();
        Check.file("3 all that has been fed", x, due);
    }

    /** 30 states of 160 bytes. */
    private static void longFiles() {
        HexTemplates x = new HexTemplates();
        for (int k = 0; k < 30; k++) {
            int[] all = Check.many(160, k);
            all[159] = 200 + k;
            Check.due("3 state", Check.give(x, all), k);
        }
        for (int k = 0; k < 30; k++) {
            Check.due("9 160 bytes", x.goTo(k), 160);
            Check.due("6 the first one", x.byteAt(0), k);
            Check.due("6 the last one", x.byteAt(159), 200 + k);
            Check.due("6 one of them", x.byteAt(80), 1);
        }
        Check.state("3 a 31st one", () -> Check.give(x, 1));
        Check.due("25 the first and the last one", x.hunk(0, 29, 1), 160);
    }

    /** "An object is used for at most 512 calls": the last ones of them answer as the first ones do. */
    private static void calls() {
        HexTemplates x = Check.with("F{n:b=#s;s:s(n);c:b=+s;}", 2, 5, 6, 11);
        // the 24 signs of the template, the 4 bytes, and what takes them over
        int calls = 24 + 1 + 4 + 1;
        for (int state = 1; state < 30; state++) {
            Check.due("21 an edit", x.insert(2, 0, state), state);
            calls++;
        }
        for (int round = 0; calls + 9 <= 512; round++) {
            int from = round % 30;
            Check.due("9 go to " + from, x.goTo(from), 4 + from);
            Check.due("7 state", x.state(), from);
            Check.due("10 chosen", x.chosen(), 0);
            Check.due("14 wrong", x.wrong(), 0);
            Check.due("12 nodes", x.nodes(), 4);
            Check.due("13 the string", x.node(2, 3), 2 + from);
            Check.due("25 the hunk", x.hunk(0, from, 2), from == 0 ? 0 : 4 + from);
            Check.state("24 a 31st state", x::repair);
            Check.due("18 what is behind", x.find(0, 0, 4 + from), HexTemplates.NONE);
            calls += 9;
        }
        while (calls < 512) {
            Check.due("5 size", x.size() > 0 ? 1 : 0, 1);
            calls++;
        }
    }
}
