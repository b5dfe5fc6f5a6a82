/** "Terms" and "Templates", sentence by sentence: the tape, and what is a template and what is none. */
public final class TemplateBoundsTest {
    private static final String LETTERS = "abcdefghijklmnopqrstuvwxyz";

    public static void main(String[] args) {
        tape();
        structures();
        fields();
        names();
        integers();
        blanks();
        types();
        bits();
        sums();
        counts();
        relations();
        relatives();
        lengths();
        usedAgain();
        Check.end();
    }

    private static void good(String text) {
        take(text, true);
    }

    private static void none(String text) {
        take(text, false);
    }

    private static void take(String text, boolean isDue) {
        HexTemplates x = new HexTemplates();
        Check.feed(x, text);
        boolean isOne;
        try {
            isOne = x.template(0) == 0;
        } catch (IllegalStateException e) {
            isOne = false;
        }
        Check.due("4 " + text, isOne ? 1 : 0, isDue ? 1 : 0);
    }

    /** "bytes on a tape of at most 200; who takes it over uses it up, also if that throws IllegalStateException" */
    private static void tape() {
        HexTemplates x = new HexTemplates();
        for (int k = 1; k <= 25; k++) {
            Check.due("2 feed of 8", x.feed(-1, 8), 8 * k);
        }
        Check.state("2 201 bytes", () -> x.feed(0, 1));
        HexTemplates y = new HexTemplates();
        y.feed(0x8877665544332211L, 8);
        y.feed(0x8877665544332211L, 1);
        y.feed(Long.MIN_VALUE, 8);
        y.feed(-2L, 2);
        Check.due("3 take over", y.give(), 0);
        Check.file("2 the lowest bytes, the lowest first", y, 0x11, 0x22, 0x33, 0x44, 0x55, 0x66, 0x77, 0x88, 0x11,
            0, 0, 0, 0, 0, 0, 0, 0x80, 254, 255);
        Check.due("3 the tape is used up", y.feed(3, 1), 1);
        Check.state("4 none", () -> y.template(0));
        Check.due("4 the tape is used up by none", y.feed('F', 1), 1);
        Check.argument("4 no rank", () -> y.template(10));
        Check.due("4 the tape is not used up by no rank", Check.template(y, "{}", 9), 0);
        Check.due("4 the tape is used up by a template", y.feed(3, 1), 1);
        String longest = longest();
        good(longest);
        HexTemplates z = new HexTemplates();
        Check.feed(z, longest);
        Check.state("2 no 201st byte behind a template", () -> z.feed('}', 1));
        Check.due("4 the template of 200 bytes stands", z.template(9), 0);
    }

    /** A template of 200 bytes, whose sum has 96 terms. */
    private static String longest() {
        return "F{a:s(0" + "+1".repeat(95) + ");}";
    }

    /** "structure { structure }, with at most 6 structures" */
    private static void structures() {
        none("");
        StringBuilder text = new StringBuilder();
        for (char c = 'A'; c <= 'F'; c++) {
            text.append(c).append("{}");
            good(text.toString());
        }
        none(text + "G{}");
        none(text + "G");
        none(text + "}");
        none(text + "{");
        none(text + "A{}");
        StringBuilder fields = new StringBuilder();
        for (char c = 'A'; c <= 'F'; c++) {
            fields.append(c).append("{a:b;}");
        }
        good(fields.toString());
        none(fields + "G{a:b;}");
    }

    /** "Name "{" { field } "}", with at most 8 fields" */
    private static void fields() {
        StringBuilder text = new StringBuilder("F{");
        for (int k = 0; k < 8; k++) {
            good(text + "}");
            none(text.toString());
            none(text + "}}");
            text.append(LETTERS.charAt(k)).append(":b;");
        }
        good(text + "}");
        good(text + "}G{}");
        none(text + "i:b;}");
        none(text.toString());
        none("G{}" + text + "i:b;}");
        none(text + "i:b;}G{}");
        good("G{}" + text + "}");
        good("A{}B{}C{}D{}E{}" + text + "}");
        none("A{}B{}C{}D{}E{}" + text + "i:b;}");
        none("A{}B{}C{}D{}E{}G{}" + text + "}");
        good(text + "}" + text.toString().replace('F', 'G') + "}");
    }

    /** "A Name is a capital letter but W, a name a small one; Names are unlike, and so are names in a structure." */
    private static void names() {
        for (int c = 0; c < 256; c++) {
            char sign = (char) c;
            take(sign + "{}", c >= 'A' && c <= 'Z' && c != 'W');
            take("F{" + sign + ":b;}", c >= 'a' && c <= 'z');
            take("F{a:r" + sign + ";}", c == 'F');
            take("F{a:" + sign + "[1];}", c == 'F');
            take("F{a:F|" + sign + ";}", c == 'F');
            take("F{a:b;b:s(" + sign + ");}", c == 'a' || c >= '0' && c <= '9');
            take("F{a:b;b:b=#" + sign + ";}", c == 'a');
        }
        for (char c : LETTERS.toCharArray()) {
            none("F{" + c + ":b;" + c + ":b;}");
            none("F{" + c + ":b;x:b;y:b;" + c + ":w;}");
            good("F{" + c + ":b;}G{" + c + ":b;}");
            char capital = Character.toUpperCase(c);
            none(capital + "{}" + capital + "{}");
            none(capital + "{}" + (c == 'h' ? 'I' : 'H') + "{a:b;}" + capital + "{b:b;}");
        }
        good("F{a:F|F|G[2];}G{}");
        good("F{a:G;}G{}");
        none("F{a:G;}");
        none("F{a:F|G;}");
        none("F{a:G|F;}");
        none("F{a:rG;}");
        none("F{a:rF|F;}");
        good("G{}F{a:rG;b:G;}");
    }

    /** "INT is 1 to 3 digits." */
    private static void integers() {
        for (String form : new String[] {"F{a:s(%);}", "F{a:s(1+%);}", "F{a:s(%*2);}", "F{a:F[%];}", "F{a:F[!%];}",
            "F{a:F[?%];}", "F{a:b=%;}", "F{a:w=%;}", "F{a:W=%;}"}) {
            none(form.replace("%", ""));
            good(form.replace("%", "0"));
            good(form.replace("%", "9"));
            good(form.replace("%", "00"));
            good(form.replace("%", "99"));
            good(form.replace("%", "000"));
            good(form.replace("%", "999"));
            none(form.replace("%", "0000"));
            none(form.replace("%", "1000"));
            none(form.replace("%", "-1"));
            none(form.replace("%", "+1"));
            none(form.replace("%", "/"));
            none(form.replace("%", ":"));
        }
    }

    /** "There are no blanks." And nothing else is put in anywhere. */
    private static void blanks() {
        String form = "F{a:b=7;b:w=#c;c:s(a+1*b);d:rG;e:n3;f:n5;g:z;h:G|F[?a-1];}G{x:F[*];y:G[!9];}";
        good(form);
        for (int k = 0; k <= form.length(); k++) {
            for (char blank : new char[] {' ', '\t', '\n', '\r', 0, 160, 255}) {
                none(form.substring(0, k) + blank + form.substring(k));
            }
        }
        for (int k = 1; k < form.length(); k++) {
            none(form.substring(0, k));
            none(form.substring(k));
        }
    }

    /** "type = ..." */
    private static void types() {
        for (int c = 0; c < 256; c++) {
            take("F{a:" + (char) c + ";}", c == 'b' || c == 'w' || c == 'W' || c == 'z' || c == 'F');
        }
        for (String type : new String[] {"b", "w", "W", "rF", "n8", "s(0)", "z", "F", "F|F", "F[0]", "F|F[0]", "F[*]",
            "F|F[*]", "F[!0]", "F[?0]"}) {
            good("F{a:" + type + ";}");
            good("F{a:" + type + ";b:" + type + ";}");
            none("F{a:" + type + "}");
            none("F{a:" + type + ";;}");
            none("F{a:" + type + type + ";}");
            none("F{a" + type + ";}");
            none("F{:" + type + ";}");
            none("F{a::" + type + ";}");
            none("F{a;" + type + ";}");
        }
        for (String type : new String[] {"", "r", "rr", "rW", "rFF", "rF[1]", "n", "nn", "n88", "n0", "n9", "n:", "n/", "s", "s(",
            "s)", "s()", "s(1", "s1)", "s[1]", "b[1]", "z[1]", "z(1)", "W[1]", "W|F", "F|W", "F||F", "|F", "F|", "F[]", "F[",
            "F]", "F[1", "F1]", "F(1)", "F[1][1]", "F[1]|F", "F[*", "F[!]", "F[?]", "F[**]", "F[*1]", "F[1*]", "F[!*]",
            "F[!?1]", "F[?*]", "F[?!1]", "F[!1+1]", "F[!a]", "F[??1]", "F[!!1]", "F[+]", "F[1?]", "bb", "zz", "wW"}) {
            none("F{a:" + type + ";}");
        }
    }

    /** "n of 1 to 8 bits"; "A field n lies in one byte; fields n that follow one another share bytes, and fill the last of them just." */
    private static void bits() {
        good("F{a:n8;}");
        for (int first = 1; first <= 9; first++) {
            for (int second = 1; second <= 9; second++) {
                take("F{a:n" + first + ";b:n" + second + ";}", first + second == 8 || first == 8 && second == 8);
                for (int third = 1; third <= 8; third++) {
                    int ahead = first == 8 ? 0 : first;
                    boolean isFull = first <= 8 && second <= 8 && ahead + second <= 8
                        && ((ahead + second) % 8 + third == 8);
                    take("F{a:n" + first + ";b:n" + second + ";c:n" + third + ";}", isFull);
                }
            }
        }
        good("F{a:n1;b:n1;c:n1;d:n1;e:n1;f:n1;g:n1;h:n1;}");
        none("F{a:n1;b:n1;c:n1;d:n1;e:n1;f:n1;g:n1;}");
        good("F{a:n8;b:n8;c:n8;d:n8;e:n8;f:n8;g:n8;h:n8;}");
        for (String type : new String[] {"b", "w", "W", "rF", "s(0)", "z", "F", "F[0]", "", ";", "=1"}) {
            none("F{a:n3;b:" + type + ";c:n5;}");
            none("F{a:n3;b:" + type + ";}");
        }
        good("F{a:n3;b:n5;c:b;d:n5;e:n3;}");
        none("F{a:n3;}G{a:n5;}");
        none("F{a:n5;b:n5;c:n6;}");
        none("F{a:n5;b:n4;c:n4;}");
        none("F{a:n7;b:n8;c:n1;}");
    }

    /** "sum = term { ( "+" | "-" | "*" ) term }; term = INT | name"; "Names in a sum are of numbers, b, w, W, r or n, earlier in the structure." */
    private static void sums() {
        for (String place : new String[] {"s(%)", "F[%]", "F[?%]"}) {
            for (String type : new String[] {"b", "w", "W", "rF", "n8", "b=1", "w=#c"}) {
                good("F{a:" + type + ";c:" + place.replace("%", "a") + ";}");
                good("F{x:b;a:" + type + ";y:z;c:" + place.replace("%", "x-a*2+a") + ";}");
                none("F{c:" + place.replace("%", "a") + ";a:" + type + ";}");
                none("F{c:" + place.replace("%", "1+a") + ";a:" + type + ";}");
                none("F{c:" + place.replace("%", "a") + ";}G{a:" + type + ";}");
                none("F{a:" + type + ";}G{c:" + place.replace("%", "a") + ";}");
            }
            for (String type : new String[] {"s(1)", "z", "F", "F[1]", "F[*]", "F|F", "F[?1]", "F[!1]"}) {
                none("F{a:" + type + ";c:" + place.replace("%", "a") + ";}");
            }
            none("F{a:b;c:" + place.replace("%", "c") + ";}");
            none("F{a:b;c:" + place.replace("%", "1+c") + ";}");
            for (String sum : new String[] {"a+", "+a", "-a", "*a", "a+-1", "a++1", "a/1", "a%1", "(a)", "a,1", "a 1", "a1",
                "1a", "aa", "a+1-", "a*", "1-", "A", "F", "a+F"}) {
                none("F{a:b;c:" + place.replace("%", sum) + ";}");
            }
        }
        good("F{a:n4;b:n4;c:s(a*b);}");
    }

    /** "count = sum | "*" | "!" INT | "?" sum" */
    private static void counts() {
        for (String count : new String[] {"0", "999", "a", "a+1", "1*a-2", "*", "!0", "!255", "!256", "!999", "?0", "?a", "?a-1*2"}) {
            good("F{a:b;c:F[" + count + "];}");
            good("F{a:b;c:F|G[" + count + "];}G{}");
        }
        for (int c = 0; c < 256; c++) {
            take("F{a:b;c:F[" + (char) c + "];}", c == 'a' || c >= '0' && c <= '9' || c == '*');
            take("F{a:b;c:F[" + (char) c + "1];}", c >= '0' && c <= '9' || c == '!' || c == '?');
        }
    }

    /** "relation = INT | ( "#" | "%" | "+" | "^" ) name"; "A relation is told of fields b, w and W alone." */
    private static void relations() {
        String[] types = {"b", "w", "W", "rF", "n8", "s(1)", "z", "F", "F[1]", "F[*]", "F[!1]", "F[?1]", "F|F", "F|F[1]"};
        for (String type : types) {
            boolean isNumber = type.length() == 1 && "bwW".contains(type);
            for (String relation : new String[] {"0", "255", "256", "999", "#c", "+c", "^c", "%c"}) {
                take("F{c:F[1];a:" + type + "=" + relation + ";}", isNumber);
                take("F{a:" + type + "=" + relation + ";c:F[1];}", isNumber);
                none("F{a:" + type + "==" + relation + ";c:F[1];}");
                none("F{a:" + type + relation + ";c:F[1];}");
            }
        }
        for (int c = 0; c < 256; c++) {
            take("F{a:b=" + (char) c + "c;c:F[1];}", c == '#' || c == '%' || c == '+' || c == '^');
            take("F{a:b=" + (char) c + ";c:F[1];}", c >= '0' && c <= '9');
        }
        for (String bad : new String[] {"", "c", "#", "%", "+", "^", "##c", "#cc", "#c+c", "#1", "#C", "1#c", "#c1", "c#", "1+1", "?c",
            "c:b", "b:b", "#:b", "#;d:b"}) {
            none("F{a:b=" + bad + ";c:F[1];}");
            none("F{c:F[1];a:b=" + bad + ";}");
        }
    }

    /** "With a name, that of any other field of the structure (of one with [ ] for %)" */
    private static void relatives() {
        String[] types = {"b", "w", "W", "rF", "n8", "s(1)", "z", "F", "F|F", "b=1", "b=#a"};
        String[] arrays = {"F[1]", "F[*]", "F[!1]", "F[?1]", "F|F[1]"};
        for (char sign : "#+^%".toCharArray()) {
            for (String type : types) {
                take("F{a:b=" + sign + "c;c:" + type + ";}", sign != '%');
                take("F{c:" + type + ";a:b=" + sign + "c;}", sign != '%');
            }
            for (String type : arrays) {
                good("F{a:b=" + sign + "c;c:" + type + ";}");
                good("F{c:" + type + ";x:z;a:b=" + sign + "c;}");
            }
            none("F{a:b=" + sign + "a;}");
            none("F{a:b=" + sign + "b;}");
            none("F{a:b=" + sign + "b;}G{b:F[1];}");
            none("G{b:F[1];}F{a:b=" + sign + "b;}");
            good("F{a:b=" + sign + "h;b:b;c:b;d:b;e:b;f:b;g:b;h:F[1];}");
            good("F{h:F[1];b:b;c:b;d:b;e:b;f:b;g:b;a:b=" + sign + "h;}");
        }
    }

    /** The tape is the only bound of how many terms and Names there may be. */
    private static void lengths() {
        HexTemplates x = Check.with(longest(), Check.many(100));
        Check.due("4 a template of 200 bytes", longest().length(), 200);
        Check.due("4 all terms are reckoned", x.node(1, 3), 95);
        String names = "F{a:G" + "|G".repeat(90) + "|H;}G{a:w;}H{}";
        HexTemplates y = Check.with(names);
        Check.due("4 a template of 199 bytes", names.length(), 199);
        Check.due("4 the last one of all Names", y.nodes() == 2 ? y.node(1, 4) : HexTemplates.NONE, 7);
    }

    /** What was none leaves nothing behind, however often. */
    private static void usedAgain() {
        HexTemplates x = new HexTemplates();
        for (int k = 0; k < 120; k++) {
            Check.state("4 none", () -> Check.template(x, "F{a:n3;b:n5;c:b=#d;d:F|F[1+1];e:rF;f:n3", 0));
        }
        Check.due("4 one", Check.template(x, "F{a:b;b:s(a+1+1);c:F|F[0];}", 0), 0);
        Check.give(x, 1, 1, 2, 3);
        Check.due("4 by its own terms", x.node(2, 3), 3);
        for (int k = 0; k < 60; k++) {
            Check.state("4 none behind one", () -> Check.template(x, "F{a:b;b:F|F|F|F[a+1+1];c:b=#a;d:b=9;", 9));
        }
        Check.due("4 the first one stays", x.node(2, 3), 3);
        Check.due("4 another one", Check.template(x, "F{a:b=1;b:F|G|H[3];}G{x:b=9;}H{x:b;}", 9), 1);
        Check.due("4 by its own Names", x.nodes(), 9);
    }
}
