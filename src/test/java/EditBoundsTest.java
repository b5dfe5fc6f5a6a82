/** "Edits" and "States", sentence by sentence, on the bounds and on both sides of them. */
public final class EditBoundsTest {
    public static void main(String[] args) {
        setBounds();
        setBits();
        setFollows();
        putInReferences();
        takenOutReferences();
        doubledReferences();
        takenOutOfElements();
        referencesTo255();
        doubledWithReferences();
        lengthsOfAll();
        countsOfTheArray();
        strings();
        elements();
        sameTemplate();
        chosenTemplate();
        rounds();
        sums();
        allHold();
        longest();
        manyNodes();
        left();
        parents();
        hunks();
        patchPlaces();
        patchContext();
        patchLengths();
        Check.end();
    }

    private static int[] row(int... bytes) {
        return bytes;
    }

    private static int[] with(int[] bytes, int place, int value) {
        int[] all = bytes.clone();
        all[place] = value;
        return all;
    }

    /** "A field b, w, W, r or n, without a relation, gets another value"; "value: 0 to the greatest one of its bits" */
    private static void setBounds() {
        String form = "F{a:b;b:w;c:W;d:rF;e:n8;f:n3;g:n5;}";
        int[] greatest = {0, 255, 65535, 65535, 255, 255, 7, 31};
        for (int node = 1; node <= 7; node++) {
            int one = node;
            HexTemplates x = Check.with(form, 9, 9, 9, 9, 9, 9, 9, 9);
            Check.due("20 0 for " + node, x.set(node, 0), 1);
            Check.due("20 it is 0", x.node(node, 4), 0);
            Check.due("20 the greatest for " + node, x.set(node, greatest[node]), 2);
            Check.due("20 it is the greatest", x.node(node, 4), greatest[node]);
            Check.due("20 the greatest less 1 for " + node, x.set(node, greatest[node] - 1), 3);
            Check.due("20 it is that", x.node(node, 4), greatest[node] - 1);
            Check.due("20 1 for " + node, x.set(node, 1), 4);
            Check.due("20 it is 1", x.node(node, 4), 1);
            Check.state("20 -1 for " + node, () -> x.set(one, -1));
            Check.state("20 one above the greatest for " + node, () -> x.set(one, greatest[one] + 1));
            Check.due("20 it is still 1", x.node(node, 4), 1);
            for (int other = 1; other <= 7; other++) {
                int due = other == 2 || other == 3 ? 0x909 : other == 6 ? 0 : 9;
                Check.due("20 set " + node + " leaves " + other, x.node(other, 4), other == node ? 1 : due);
            }
        }
        HexTemplates y = Check.with("F{a:w;b:W;}", 0, 0, 0, 0);
        for (int value : new int[] {1, 254, 255, 256, 257, 511, 32767, 32768, 65279, 65280, 65281}) {
            y.set(1, value);
            y.set(2, value);
            Check.file("20 " + value, y, value & 255, value >> 8, value >> 8, value & 255);
        }
    }

    private static void setBits() {
        for (int bits = 1; bits < 8; bits++) {
            String form = "F{x:b;a:n" + bits + ";b:n" + (8 - bits) + ";y:b;}";
            for (int all : new int[] {0, 0x5a, 255}) {
                int high = (1 << bits) - 1;
                int low = (1 << 8 - bits) - 1;
                HexTemplates x = Check.with(form, 3, all, 4);
                Check.due("20 n" + bits, x.set(2, high), 1);
                Check.file("20 the highest bits", x, 3, all & low | high << 8 - bits, 4);
                Check.due("20 n" + bits + " to 0", x.set(2, 0), 2);
                Check.file("20 the highest bits are 0", x, 3, all & low, 4);
                Check.due("20 n" + (8 - bits), x.set(3, low), 3);
                Check.file("20 the lowest bits", x, 3, low, 4);
                Check.state("20 n" + bits + " too great", () -> x.set(2, high + 1));
                Check.state("20 n" + (8 - bits) + " too great", () -> x.set(3, low + 1));
            }
        }
        HexTemplates x = Check.with("F{a:n2;b:n3;c:n3;}", 0b10101010);
        x.set(2, 0);
        Check.file("20 bits in the middle to 0", x, 0b10000010);
        x.set(2, 7);
        Check.file("20 bits in the middle", x, 0b10111010);
    }

    /** A number that has a relation is set by no one; what is reckoned from a number follows it. */
    private static void setFollows() {
        for (String relation : new String[] {"=1", "=#s", "=+s", "=^s", "=%e"}) {
            for (String type : new String[] {"b", "w", "W"}) {
                String form = "F{n:" + type + relation + ";s:s(1);e:E[1];}E{}";
                int[] bytes = type.equals("W") ? row(0, 1, 1) : type.equals("w") ? row(1, 0, 1) : row(1, 1);
                Check.due("14 " + form, Check.with(form, bytes).wrong(), 0);
                for (int value = 0; value < 3; value++) {
                    int one = value;
                    Check.state("20 " + form, () -> Check.with(form, bytes), x -> x.set(1, one));
                }
            }
        }
        HexTemplates x = Check.with("F{n:b;m:b;s:s(n-m);}", 5, 3, 1, 2, 9, 9);
        Check.due("20 longer", x.set(1, 7), 1);
        Check.state("20 too long", () -> x.set(1, 8));
        Check.due("20 of no bytes", x.set(1, 3), 2);
        Check.state("20 of less than no bytes", () -> x.set(1, 2));
        HexTemplates y = Check.with("F{n:b;a:E[n];}E{}", 5);
        Check.due("20 20 elements", y.set(1, 20), 1);
        Check.state("20 21 elements", () -> y.set(1, 21));
        Check.due("20 no element", y.set(1, 0), 2);
        Check.Maker end = () -> Check.with("F{n:b;a:A[!9];e:b;}A{x:b;}", 5, 1, 2, 9);
        Check.state("20 the end is gone", end, one -> one.set(7, 8));
        Check.due("20 the end comes earlier", end.make().set(6, 9), 1);
        HexTemplates earlier = end.make();
        earlier.set(4, 9);
        Check.due("20 the end comes at once", earlier.node(2, 4), 0);
        Check.due("20 and is the next field", earlier.node(3, 2), 1);
    }

    private static final String REFERENCES = "F{a:rF;b:rF;n:b=#s;s:s(n);c:rF;}";

    /** "if k bytes are put in at the offset p, each reference whose value is p or more is k more" */
    private static void putInReferences() {
        for (int place = 0; place <= 3; place++) {
            int p = 3 + place;
            for (int a = 0; a < 255; a++) {
                HexTemplates x = Check.with(REFERENCES, a, 254 - a, 3, 11, 12, 13, a);
                Check.due("21 put in", x.insert(4, place, 99), 1);
                int due = a >= p ? a + 1 : a;
                int other = 254 - a >= p ? 255 - a : 254 - a;
                int[] all = {due, other, 4, 11, 12, 13, 0, due};
                System.arraycopy(all, p, all, p + 1, 6 - p);
                all[p] = 99;
                Check.file("21 put in at " + p + " with a reference to " + a, x, all);
            }
        }
    }

    /** "if k bytes are taken out from p on, it is k less, if it is p + k or more, and p, if it is above p and less than that" */
    private static void takenOutReferences() {
        for (int place = 0; place < 3; place++) {
            int p = 3 + place;
            for (int a = 0; a < 256; a++) {
                HexTemplates x = Check.with(REFERENCES, a, 255 - a, 3, 11, 12, 13, a);
                Check.due("22 taken out", x.remove(4, place), 1);
                int due = a >= p + 1 ? a - 1 : a;
                int other = 255 - a >= p + 1 ? 254 - a : 255 - a;
                int[] all = {due, other, 2, 0, 0, due};
                for (int k = 0, at = 3; k < 3; k++) {
                    if (k != place) {
                        all[at] = 11 + k;
                        at++;
                    }
                }
                Check.file("22 taken out at " + p + " with a reference to " + a, x, all);
            }
        }
    }

    /** An array of elements of so many bytes; the elements are at the offset 3. */
    private static String array(int bytes) {
        return "F{a:rF;n:b=%e;b:rF;e:E[n];c:rF;}E{s:s(" + bytes + ");}";
    }

    private static int[] arrayFile(int bytes, int count, int a, int b) {
        int[] all = new int[4 + bytes * count];
        all[0] = a;
        all[1] = count;
        all[2] = b;
        for (int k = 0; k < bytes * count; k++) {
            all[3 + k] = 100 + k;
        }
        all[all.length - 1] = a;
        return all;
    }

    private static void doubledReferences() {
        for (int bytes : new int[] {1, 2, 3, 10}) {
            for (int place = 0; place < 3; place++) {
                int p = 3 + bytes * (place + 1);
                int from = 255 - bytes;
                for (int a : new int[] {0, p - bytes - 1, p - bytes, p - bytes + 1, p - 1, p, p + 1, p + bytes, from - 1, from}) {
                    HexTemplates x = Check.with(array(bytes), arrayFile(bytes, 3, a, from));
                    Check.due("23 doubled", x.element(4, place, true), 1);
                    int due = a >= p ? a + bytes : a;
                    int[] all = arrayFile(bytes, 4, due, 255);
                    int[] old = arrayFile(bytes, 3, 0, 0);
                    System.arraycopy(old, p - bytes, all, p, old.length - 1 - p + bytes);
                    Check.file("23 element " + place + " of " + bytes + " doubled, a reference to " + a, x, all);
                }
                for (int a = from + 1; a <= 255; a++) {
                    int one = a;
                    Check.state("23 a reference to " + a, () -> Check.with(array(bytes), arrayFile(bytes, 3, one, 0)),
                        x -> x.element(4, 0, true));
                }
            }
        }
    }

    private static void takenOutOfElements() {
        for (int bytes : new int[] {1, 2, 3, 10}) {
            for (int place = 0; place < 3; place++) {
                int p = 3 + bytes * place;
                for (int a = 0; a < 256; a++) {
                    HexTemplates x = Check.with(array(bytes), arrayFile(bytes, 3, a, 255));
                    Check.due("23 taken out", x.element(4, place, false), 1);
                    int due = a >= p + bytes ? a - bytes : a > p ? p : a;
                    int[] all = arrayFile(bytes, 2, due, 255 - bytes);
                    int[] old = arrayFile(bytes, 3, 0, 0);
                    System.arraycopy(old, p + bytes, all, p, old.length - 1 - p - bytes);
                    Check.file("23 element " + place + " of " + bytes + " taken out, a reference to " + a, x, all);
                }
            }
        }
        // what is empty moves no reference
        HexTemplates x = Check.with("F{a:rF;n:b=%e;b:rF;e:E[n];}E{}", 3, 2, 255);
        Check.due("23 an empty one doubled", x.element(4, 0, true), 1);
        Check.file("23 references stay", x, 3, 3, 255);
        Check.due("23 an empty one taken out", x.element(4, 2, false), 2);
        Check.file("23 references stay", x, 3, 2, 255);
    }

    /** "it has to be 0 to 255" */
    private static void referencesTo255() {
        for (int to = 250; to <= 255; to++) {
            int one = to;
            Check.Maker file = () -> Check.with(REFERENCES, 0, one, 1, 7, 0);
            Check.Maker behind = () -> Check.with(REFERENCES, 0, 0, 1, 7, one);
            if (to < 255) {
                Check.due("21 a reference to " + to, file.make().insert(4, 0, 1), 1);
                Check.due("21 a reference behind to " + to, behind.make().insert(4, 1, 1), 1);
            } else {
                Check.state("21 a reference to 255", file, x -> x.insert(4, 0, 1));
                Check.state("21 a reference behind to 255", behind, x -> x.insert(4, 1, 1));
            }
            HexTemplates x = file.make();
            Check.due("22 a reference to " + to, x.remove(4, 0), 1);
            Check.due("22 it is", x.byteAt(1), to - 1);
        }
        // a reference to 0 can't be less: nothing is taken out ahead of it
        HexTemplates x = Check.with("F{s:s(1);a:rF;b:b;}", 9, 0, 5, 6);
        Check.due("22 at the first byte", x.remove(1, 0), 1);
        Check.file("22 a reference to 0 stays", x, 0, 5, 6);
        HexTemplates y = Check.with("F{s:s(1);a:rF;b:b;}", 9, 1, 5, 6);
        y.remove(1, 0);
        Check.file("22 a reference to 1 is 0", y, 0, 5, 6);
    }

    /** "Ahead of that": so the bytes of an element that is doubled are those with the references moved. */
    private static void doubledWithReferences() {
        for (int to = 0; to < 254; to++) {
            HexTemplates x = Check.with("F{a:E[*];}E{r:rE;x:b;}", to, 8);
            Check.due("23 doubled", x.element(1, 0, true), 1);
            int due = to >= 2 ? to + 2 : to;
            Check.file("23 doubled with a reference to " + to, x, due, 8, due, 8);
        }
        Check.state("23 with a reference to 254", () -> Check.with("F{a:E[*];}E{r:rE;x:b;}", 254, 8), x -> x.element(1, 0, true));
        HexTemplates y = Check.with("F{a:E[*];}E{r:rE;x:b;}", 3, 8, 4, 9);
        y.element(1, 1, true);
        Check.file("23 the last one", y, 3, 8, 6, 9, 6, 9);
    }

    /** "each field with # whose field has the bytes, or gets them, in it, gets its new length" */
    private static void lengthsOfAll() {
        String form = "F{o:b=#g;g:G;p:b=#h;h:s(1);}G{i:b=#a;j:b=%a;a:E[j];k:b=#t;t:s(1);}E{l:b=#s;s:s(l);}";
        int[] file = {10, 6, 2, 1, 7, 3, 8, 8, 8, 1, 5, 1, 6};
        file[0] = 10;
        HexTemplates x = Check.with(form, file);
        Check.due("14 as it should be", x.wrong(), 0);
        int second = 11;
        Check.due("13 the second string", x.node(second, 3), 3);
        for (int place = 0; place <= 3; place++) {
            x.goTo(0);
            x.insert(second, place, 9);
            int[] due = {11, 7, 2, 1, 7, 4, 8, 8, 8, 8, 1, 5, 1, 6};
            Check.file("21 at " + place, x, with(due, 6 + place, 9));
        }
        for (int place = 0; place < 3; place++) {
            x.goTo(0);
            x.remove(second, place);
            Check.file("22 at " + place, x, 9, 5, 2, 1, 7, 2, 8, 8, 1, 5, 1, 6);
        }
        x.goTo(0);
        x.element(5, 0, true);
        Check.file("23 the first doubled", x, 12, 8, 3, 1, 7, 1, 7, 3, 8, 8, 8, 1, 5, 1, 6);
        x.goTo(0);
        x.element(5, 1, true);
        Check.file("23 the second doubled", x, 14, 10, 3, 1, 7, 3, 8, 8, 8, 3, 8, 8, 8, 1, 5, 1, 6);
        x.goTo(0);
        x.element(5, 1, false);
        Check.file("23 the second taken out", x, 6, 2, 1, 1, 7, 1, 5, 1, 6);
        x.element(5, 0, false);
        Check.file("23 the last one taken out", x, 4, 0, 0, 1, 5, 1, 6);
        // the new length, also if the old one was not as it should be: s has 3 bytes then, but 91 are not there
        HexTemplates w = Check.with("F{n:b=#t;t:z;s:s(n);}", with(with(Check.many(93, 90), 1, 5), 2, 0));
        Check.due("14 the length is wrong", w.wrong(), 1);
        Check.due("21 the new length", w.insert(2, 0, 7), 1);
        Check.due("21 it is that", w.byteAt(0), 3);
        HexTemplates v = Check.with("F{n:b=#t;t:z;s:s(n);}", 0, 5, 6, 0, 1, 1);
        Check.due("22 the new length", v.remove(2, 0), 1);
        Check.file("22 it is that", v, 2, 6, 0, 1, 1);
        // a length of two bytes, the higher one first, around a string of 0 bytes
        HexTemplates y = Check.with("F{l:W=#g;m:w=#g;g:G;}G{n:b=#s;s:s(n);}", 0, 1, 1, 0, 0);
        Check.due("21 into none", y.insert(5, 0, 200), 1);
        Check.file("21 it has one", y, 0, 2, 2, 0, 1, 200);
        Check.due("22 the only one", y.remove(5, 0), 2);
        Check.file("22 it has none", y, 0, 1, 1, 0, 0);
    }

    /** "and each one with % of the array its new count" */
    private static void countsOfTheArray() {
        HexTemplates x = Check.with("F{n:b=%a;o:w=%b;a:E[n];b:E[!9];e:b;p:W=%a;}E{m:b=%c;c:X[m];}X{x:b;}",
            1, 2, 0, 1, 7, 0, 1, 8, 9, 0, 1);
        Check.due("14 as it should be", x.wrong(), 0);
        Check.due("23 a doubled", x.element(3, 0, true), 1);
        Check.file("23 n and p", x, 2, 2, 0, 1, 7, 1, 7, 0, 1, 8, 9, 0, 2);
        x.goTo(0);
        int b = 9;
        Check.due("13 it is an array", x.node(b, 0), HexTemplates.ARRAY);
        x.element(b, 0, true);
        Check.file("23 o", x, 1, 3, 0, 1, 7, 0, 0, 1, 8, 9, 0, 1);
        x.goTo(0);
        x.element(6, 0, true);
        Check.file("23 m of the element alone", x, 1, 2, 0, 2, 7, 7, 0, 1, 8, 9, 0, 1);
        x.goTo(0);
        x.element(6, 0, false);
        Check.file("23 m of the element is 0", x, 1, 2, 0, 0, 0, 1, 8, 9, 0, 1);
        x.goTo(0);
        x.element(3, 0, false);
        Check.file("23 n and p are 0", x, 0, 2, 0, 0, 1, 8, 9, 0, 0);
        // the new count, also if the old one was not as it should be: s has 2 bytes then, but 91 are not there
        HexTemplates w = Check.with("F{n:b=%a;a:E[!9];s:s(n);}E{x:b;}", with(Check.many(92, 90), 2, 9));
        Check.due("14 the count is wrong", w.wrong(), 1);
        Check.due("23 the new count", w.element(2, 0, true), 1);
        Check.due("23 it is that", w.byteAt(0), 2);
        HexTemplates v = Check.with("F{n:b=%a;a:E[!9];s:s(n);}E{x:b;}", 0, 5, 6, 9, 1);
        Check.due("23 the new count", v.element(2, 0, false), 1);
        Check.file("23 it is that", v, 1, 6, 9, 1);
        // all that tell of the array: the second one is how many it has
        for (String form : new String[] {"F{o:b=%a;n:b=%a;a:E[n];z:z;}E{x:b;}", "F{n:b=%a;o:b=%a;a:E[n];z:z;}E{x:b;}"}) {
            HexTemplates z = Check.with(form, 2, 2, 5, 6, 7, 8, 0);
            z.element(3, 1, true);
            Check.file("23 each one of two, " + form, z, 3, 3, 5, 6, 6, 7, 8, 0);
            z.element(3, 0, false);
            Check.file("23 each one of two, " + form, z, 2, 2, 6, 6, 7, 8, 0);
        }
        HexTemplates y = Check.with("F{n:b=%a;a:E[n];}E{}", 20);
        Check.state("23 21 elements", () -> y.element(2, 0, true));
        y.element(2, 19, false);
        Check.file("23 19 elements", y, 19);
        y.element(2, 18, true);
        Check.file("23 20 elements", y, 20);
    }

    /** "place: 0 to its length, of z without its last byte"; "0 to its length less 1, of z without its last byte" */
    private static void strings() {
        for (int length = 0; length <= 4; length++) {
            int[] s = new int[length + 1];
            int[] z = new int[length + 1];
            s[0] = length;
            for (int k = 0; k < length; k++) {
                s[k + 1] = 50 + k;
                z[k] = 50 + k;
            }
            for (int place = -1; place <= length + 2; place++) {
                int one = place;
                Check.Maker counted = () -> Check.with("F{n:b=#s;s:s(n);}", s);
                Check.Maker ended = () -> Check.with("F{z:z;}", z);
                if (place >= 0 && place <= length) {
                    HexTemplates x = counted.make();
                    Check.due("21 s", x.insert(2, place, 0), 1);
                    Check.due("21 s is longer", x.node(2, 3), length + 1);
                    Check.due("21 s has it", x.byteAt(1 + place), 0);
                    HexTemplates y = ended.make();
                    Check.due("21 z", y.insert(1, place, 255), 1);
                    Check.due("21 z is longer", y.node(1, 3), length + 2);
                    Check.due("21 z has it", y.byteAt(place), 255);
                } else {
                    Check.state("21 s at " + place, counted, x -> x.insert(2, one, 0));
                    Check.state("21 z at " + place, ended, x -> x.insert(1, one, 1));
                }
                if (place >= 0 && place < length) {
                    HexTemplates x = counted.make();
                    Check.due("22 s", x.remove(2, place), 1);
                    Check.due("22 s is shorter", x.node(2, 3), length - 1);
                    HexTemplates y = ended.make();
                    Check.due("22 z", y.remove(1, place), 1);
                    Check.due("22 z is shorter", y.node(1, 3), length);
                } else {
                    Check.state("22 s at " + place, counted, x -> x.remove(2, one));
                    Check.state("22 z at " + place, ended, x -> x.remove(1, one));
                }
                Check.state("21 0 in z at " + place, ended, x -> x.insert(1, one, 0));
            }
        }
        HexTemplates x = Check.with("F{n:b=#s;s:s(n);}", Check.many(101, 99));
        Check.due("21 100 bytes", x.insert(2, 99, 3), 1);
        Check.state("21 101 bytes", () -> x.insert(2, 0, 3));
        Check.due("22 99 bytes", x.remove(2, 99), 2);
    }

    /** "Doubles an element of an array: its bytes come behind it once more; or takes it out." */
    private static void elements() {
        String form = "F{n:b=%a;a:E|G[n];}E{k:b=1;x:b;}G{k:b=2;x:w;}";
        int[] file = {3, 1, 10, 2, 20, 21, 1, 11};
        int[][] doubled = {{4, 1, 10, 1, 10, 2, 20, 21, 1, 11}, {4, 1, 10, 2, 20, 21, 2, 20, 21, 1, 11},
            {4, 1, 10, 2, 20, 21, 1, 11, 1, 11}};
        int[][] taken = {{2, 2, 20, 21, 1, 11}, {2, 1, 10, 1, 11}, {2, 1, 10, 2, 20, 21}};
        for (int place = -1; place <= 4; place++) {
            int one = place;
            if (place < 0 || place > 2) {
                Check.state("23 at " + place, () -> Check.with(form, file), x -> x.element(2, one, true));
                Check.state("23 at " + place, () -> Check.with(form, file), x -> x.element(2, one, false));
            } else {
                HexTemplates x = Check.with(form, file);
                Check.due("23 doubled", x.element(2, place, true), 1);
                Check.file("23 doubled at " + place, x, doubled[place]);
                x.goTo(0);
                Check.due("23 taken out", x.element(2, place, false), 2);
                Check.file("23 taken out at " + place, x, taken[place]);
            }
        }
        HexTemplates one = Check.with("F{a:E[?1];s:z;}E{x:b;}", 7, 8, 0);
        Check.due("23 of ?", one.element(1, 0, true), 1);
        Check.file("23 the second one is no more its own", one, 7, 7, 8, 0);
        Check.due("13 it has one", one.node(1, 4), 1);
        Check.state("23 of ? at 1", () -> one.element(1, 1, true));
        Check.due("23 of ? taken out", one.element(1, 0, false), 2);
        Check.due("13 it has the next one", one.node(1, 4), 1);
        HexTemplates none = Check.with("F{a:E[?0];s:z;}E{x:b;}", 7, 8, 0);
        Check.state("23 of ? with none", () -> none.element(1, 0, false));
        Check.state("23 of ? with none", () -> none.element(1, 0, true));
        HexTemplates fixed = Check.with("F{a:E[2];s:z;}E{x:b;}", 7, 8, 6, 0);
        Check.due("23 of a number that stays", fixed.element(1, 0, true), 1);
        Check.file("23 the last one is in the string", fixed, 7, 7, 8, 6, 0);
        Check.due("13 it still has 2", fixed.node(1, 4), 2);
        Check.due("13 the string has it", fixed.node(6, 4), 8);
    }

    /** "The file is read by the same template, which must not be a fault." */
    private static void sameTemplate() {
        HexTemplates x = new HexTemplates();
        Check.template(x, "F{k:b=1;a:z;b:b=7;}", 5);
        Check.template(x, "F{k:b;a:s(2);}", 4);
        Check.template(x, "F{k:b;a:s(3);}", 9);
        Check.give(x, 1, 0, 7);
        Check.due("10 by the first one", x.chosen(), 0);
        Check.due("21 it fits", x.insert(2, 0, 5), 1);
        Check.due("10 another one fits now, and has the greater rank", x.chosen(), 2);
        x.goTo(0);
        Check.due("10 by the first one again", x.chosen(), 0);
        HexTemplates y = new HexTemplates();
        Check.template(y, "F{k:b;n:b;s:s(n);}", 5);
        Check.template(y, "F{k:b;}", 0);
        Check.give(y, 1, 1, 7);
        Check.state("20 another template would fit, but not the same one", () -> y.set(2, 2));
        Check.due("10 it stays", y.chosen(), 0);
        Check.due("20 the same one fits", y.set(2, 0), 1);
        // c is right only by 3.: so by 2. t has n less the old c bytes, and these have to be there
        for (int n = 5; n <= 12; n++) {
            int one = n;
            Check.Maker maker = () -> Check.with("F{n:b;c:b=+n;t:s(n-c);}", 5, 5, 7, 8);
            if (n <= 7) {
                HexTemplates z = maker.make();
                Check.due("20 " + (n - 5) + " bytes are there", z.set(1, n), 1);
                Check.file("20 then there are none", z, n, n, 7, 8);
            } else {
                Check.state("20 " + (n - 5) + " bytes are not there", maker, w -> w.set(1, one));
            }
        }
    }

    /** "An edit is made in the file as it is read by its template": not by the first one told, or by one with a lower rank. */
    private static void chosenTemplate() {
        String[] others = {"F{a:b;b:b;c:b=7;}", "F{s:s(4);}", "F{n:b=#s;s:s(1);c:b=7;}", "F{n:b=#s;c:b=+s;s:s(1);}"};
        for (String other : others) {
            for (int place = 0; place < 2; place++) {
                HexTemplates x = new HexTemplates();
                for (int k = 0; k < 2; k++) {
                    Check.template(x, k == place ? "F{n:b=#s;s:s(n);c:b=+s;e:b;}" : other, k == place ? 6 : 5);
                }
                String what = " by the template " + place + " beside " + other;
                Check.give(x, 1, 7, 7, 9);
                Check.due("10" + what, x.chosen(), place);
                Check.due("21" + what, x.insert(2, 1, 3), 1);
                Check.file("21" + what, x, 2, 7, 3, 10, 9);
                Check.due("22" + what, x.remove(2, 0), 2);
                Check.file("22" + what, x, 1, 3, 3, 9);
                Check.due("20" + what, x.set(4, 8), 3);
                Check.file("20" + what, x, 1, 3, 3, 8);
                Check.give(x, 1, 7, 8, 9);
                Check.due("24" + what, x.repair(), 5);
                Check.file("24" + what, x, 1, 7, 7, 9);
            }
        }
    }

    /** "this is done again, at most 4 times in all; behind that none may be wrong" */
    private static void rounds() {
        // each of the lengths is told by the string behind it, so that it is right one time later
        String[] forms = {"F{x:b;a:b=#p;p:s(x);}", "F{x:b;a:b=#p;b:b=#q;p:s(x);q:s(a);}",
            "F{x:b;a:b=#p;b:b=#q;c:b=#r;p:s(x);q:s(a);r:s(b);}"};
        for (int k = 0; k < forms.length; k++) {
            HexTemplates x = Check.with(forms[k], new int[40]);
            Check.due("20 " + (k + 1) + " times", x.set(1, 3), 1);
            Check.due("14 all hold", x.wrong(), 0);
            Check.due("13 the last length", x.node(2 + k, 4), 3);
        }
        // G has 3 of them; around it there are so many more
        String inner = "G{x:b;a:b=#p;b:b=#q;c:b=#r;p:s(x);q:s(a);r:s(b);t:s(c);}";
        rounds("F{l:b=#g;g:G;}" + inner, true);
        rounds("F{l:b=#g;m:b=#u;g:G;u:s(l);}" + inner, false);
        rounds("F{h:H;g:G;}H{x:b;}" + inner, true);
        // the length is told ahead of what it is the length of: at once, whatever comes behind
        rounds("F{l:b=#g;m:b=#h;g:G;h:H;}H{x:b;s:s(2);}" + inner, true);
        rounds("F{l:b=#g;g:G;m:b=#u;u:s(l);}" + inner, false);
        // what is never right: each time more, less, or there and back
        for (String sum : new String[] {"n+1", "n+2", "n-1", "n*n", "20-n"}) {
            for (int n : new int[] {2, 3, 5, 9}) {
                String form = "F{n:b=#s;s:s(" + sum + ");}";
                Check.state("24 " + form + " of " + n, () -> Check.with(form, first(120, n)), HexTemplates::repair);
            }
        }
        for (int n = 0; n < 2; n++) {
            Check.due("24 right at once", Check.with("F{n:b=#s;s:s(n*n);}", first(9, n)).repair(), 1);
        }
        Check.due("24 right in the middle", Check.with("F{n:b=#s;s:s(20-n);}", first(60, 10)).repair(), 1);
        for (int n = 1; n < 8; n++) {
            HexTemplates x = Check.with("F{a:b=#p;b:b=#q;c:b=#r;d:b=#t;p:s(1);q:s(a);r:s(b);t:s(c);}", first(60, n, n, n, n));
            Check.due("24 three behind one", x.repair(), 1);
            Check.file("24 all are 1", x, first(60, 1, 1, 1, 1));
        }
    }

    private static void rounds(String form, boolean isDone) {
        Check.Maker maker = () -> {
            HexTemplates x = Check.with(form, new int[60]);
            x.repair();
            return x;
        };
        HexTemplates y = maker.make();
        int node = 0;
        while (y.node(node, 1) != 'x' - 'a' || y.node(y.node(node, 5), 4) != 'G' - 'A') {
            node++;
        }
        int x = node;
        if (isDone) {
            Check.due("20 " + form, y.set(x, 2), 2);
            Check.due("14 " + form, y.wrong(), 0);
        } else {
            Check.state("20 " + form, maker, z -> z.set(x, 2));
        }
    }

    private static int[] first(int count, int... first) {
        int[] all = new int[count];
        System.arraycopy(first, 0, all, 0, first.length);
        return all;
    }

    /** "always the first one by nodes in whose field no other such one lies that has not yet got it; there has to be one, as long as some are left" */
    private static void sums() {
        // through a row of fields, each one the sum of the next one
        HexTemplates x = Check.with("F{a:b=+b;b:b=^c;c:b=+d;d:w=^e;e:W=+s;s:s(2);}", 0, 0, 0, 0, 0, 0, 0, 200, 100);
        Check.due("24 a row", x.repair(), 1);
        int e = 300;
        int d = e >> 8 ^ e & 255;
        Check.file("24 a row", x, d, d, d, d, 0, 1, 44, 200, 100);
        // each one in the field of the one around it
        HexTemplates y = Check.with("F{a:b=+g;g:G;}G{a:b=^h;h:H;}H{a:b=+s;s:s(2);b:b=^s;}", 9, 9, 9, 3, 5, 9);
        Check.due("24 around one another", y.repair(), 1);
        int c = 8 ^ 3 ^ 5 ^ 6;
        Check.file("24 around one another", y, c + 8 + 3 + 5 + 6, c, 8, 3, 5, 6);
        // in a circle there is none
        for (String form : new String[] {"F{a:b=+b;b:b=+a;}", "F{a:b=+b;b:b=^c;c:b=+a;}", "F{a:b=+g;b:b;g:G;}G{c:b=+d;d:b=^c;}",
            "F{a:b=^g;g:G;x:b;}G{c:b=+d;d:w=^c;x:b;}", "F{s:b;a:w=+b;b:W=+a;c:b=+s;}"}) {
            Check.state("24 " + form, () -> Check.with(form, 0, 0, 0, 0, 0, 0), HexTemplates::repair);
        }
        HexTemplates none = Check.with("F{a:b=+b;b:G[0];c:b=^b;}G{x:b;}", 9, 9);
        Check.due("24 of no bytes", none.repair(), 1);
        Check.file("24 of no bytes it is 0", none, 0, 0);
        // lengths are not such ones: they are right ahead of all sums
        HexTemplates l = Check.with("F{c:b=+l;l:b=#c;s:b=^c;}", 9, 9, 9);
        Check.due("24 lengths in sums", l.repair(), 1);
        Check.file("24 lengths in sums", l, 1, 1, 1);
        // "What a field should be is what fits its bits for + and ^"
        HexTemplates fit = Check.with("F{a:b=+s;b:w=+s;c:W=+s;s:s(4);}", 0, 0, 0, 0, 0, 255, 255, 1, 1);
        fit.repair();
        Check.file("24 what fits", fit, 0, 0, 2, 2, 0, 255, 255, 1, 1);
        HexTemplates over = Check.with("F{a:b=+s;b:w=+s;c:W=+s;s:s(2);}", 0, 0, 0, 0, 0, 255, 0);
        over.repair();
        Check.file("24 255", over, 255, 255, 0, 0, 255, 255, 0);
        over.repair();
        HexTemplates more = Check.with("F{a:b=+s;b:w=+s;c:W=+s;s:s(2);}", 0, 0, 0, 0, 0, 255, 1);
        more.repair();
        Check.file("24 256", more, 0, 0, 1, 1, 0, 255, 1);
    }

    /** "The file is read by the template once more, without a fault, and all relations have to hold." */
    private static void allHold() {
        // a sum that tells how long another string is, whose length is told
        for (int b = 0; b <= 5; b++) {
            int one = b;
            String form = "F{l:b=#t;c:b=+s;s:s(1);t:s(c);}";
            Check.Maker maker = () -> Check.with(form, 2, 2, one, 1, 2, 3, 4, 5);
            if (b == 2) {
                Check.due("24 it is as it was", maker.make().repair(), 1);
            } else {
                Check.state("24 a length does not hold behind a sum of " + b, maker, HexTemplates::repair);
            }
            // without the length there is nothing that does not hold, as long as there are bytes
            Check.due("24 a sum of " + b, Check.with("F{c:b=+s;s:s(1);t:s(c);}", 0, one, 1, 2, 3, 4, 5).repair(), 1);
        }
        Check.due("24 the last bytes", Check.with("F{c:b=+s;s:s(1);t:s(c);}", 0, 3, 1, 2, 3).repair(), 1);
        Check.state("24 bytes are missing", () -> Check.with("F{c:b=+s;s:s(1);t:s(c);}", 0, 4, 1, 2, 3), HexTemplates::repair);
        // behind the sum c the array has one element, and so d is another byte
        Check.state("24 a sum of what is another one now",
            () -> Check.with("F{c:b=+s;s:s(1);a:G[c];d:b=+a;}G{x:b;}", 0, 1, 7, 7, 8), HexTemplates::repair);
        Check.due("24 by chance it is the same", Check.with("F{c:b=+s;s:s(1);a:G[c];d:b=+a;}G{x:b;}", 0, 1, 0, 0, 8).repair(), 1);
        HexTemplates x = Check.with("F{k:b=7;n:b=#s;s:s(n);c:b=+s;}", 7, 1, 5, 9);
        Check.due("14 one does not hold", x.wrong(), 1);
        Check.due("21 an edit puts all right", x.insert(3, 1, 6), 1);
        Check.file("21 all right", x, 7, 2, 5, 6, 11);
    }

    /** "A file has at most 160 bytes." */
    private static void longest() {
        for (int bytes = 155; bytes <= 160; bytes++) {
            int size = bytes;
            int[] file = Check.many(bytes);
            file[bytes - 1] = 0;
            Check.Maker maker = () -> Check.with("F{z:z;}", file);
            if (bytes < 160) {
                HexTemplates x = maker.make();
                Check.due("21 " + bytes + " bytes", x.insert(1, bytes - 1, 1), 1);
                Check.due("5 one more", x.size(), bytes + 1);
            } else {
                Check.state("21 160 bytes", maker, x -> x.insert(1, size - 1, 1));
                Check.state("21 160 bytes", maker, x -> x.insert(1, 0, 1));
                Check.due("22 160 bytes", maker.make().remove(1, 0), 1);
            }
            for (int k = 1; k <= 6; k++) {
                String form = "F{a:E[1];}E{s:s(" + k + ");}";
                Check.Maker array = () -> Check.with(form, file);
                if (bytes + k <= 160) {
                    HexTemplates x = array.make();
                    Check.due("23 " + bytes + " and " + k, x.element(1, 0, true), 1);
                    Check.due("5 so many more", x.size(), bytes + k);
                } else {
                    Check.state("23 " + bytes + " and " + k, array, x -> x.element(1, 0, true));
                }
                HexTemplates y = array.make();
                y.element(1, 0, false);
                Check.due("5 so many less", y.size(), bytes - k);
            }
        }
        HexTemplates x = Check.with("F{a:b;b:b=+c;c:s(100);}", Check.many(160));
        Check.due("20 at 160 bytes", x.set(1, 9), 1);
        Check.due("24 at 160 bytes", x.repair(), 2);
        Check.due("5 160 bytes", x.size(), 160);
        HexTemplates y = Check.with("F{a:E[1];}E{s:s(80);}", Check.many(80));
        Check.due("23 to 160", y.element(1, 0, true), 1);
        Check.state("23 and not further", () -> y.element(1, 0, true));
    }

    /** An edit of a file of 200 nodes, and edits to as many, and to one more. */
    private static void manyNodes() {
        String form = "F{r:n8;n:b=%b;a:G[8];b:X[n];l:b=#s;s:s(l);z:b=+s;}G{x:X[20];}X{}";
        for (int n = 13; n <= 17; n++) {
            int nodes = 1 + 7 + 8 * 22 + n;
            int[] file = {1, n, 1, 9, 9};
            HexTemplates x = Check.with(form, file);
            Check.due("12 " + nodes + " nodes", x.nodes(), nodes <= 200 ? nodes : 0);
            if (nodes > 200) {
                continue;
            }
            int b = 3 + 8 * 22 + 1;
            Check.due("13 an array", x.node(b, 4), n);
            Check.due("20 with " + nodes, x.set(1, 7), 1);
            Check.due("21 with " + nodes, x.insert(nodes - 2, 0, 5), 2);
            Check.file("21 with " + nodes, x, 7, n, 2, 5, 9, 14);
            Check.due("22 with " + nodes, x.remove(nodes - 2, 1), 3);
            Check.due("24 with " + nodes, x.repair(), 4);
            Check.file("24 with " + nodes, x, 7, n, 1, 5, 5);
            Check.due("13 the last node", x.node(nodes - 1, 4), 5);
            if (nodes < 200) {
                Check.due("23 to one more than " + nodes, x.element(b, 0, true), 5);
                Check.due("12 one more than " + nodes, x.nodes(), nodes + 1);
            } else {
                Check.state("23 to 201", () -> x.element(b, 0, true));
                Check.due("23 to 199", x.element(b, 0, false), 5);
                Check.due("12 199 nodes", x.nodes(), 199);
            }
        }
        HexTemplates y = Check.with("F{r:rX;a:G[8];b:X[19];s:z;}G{x:X[20];}X{}", 3, 5, 0, 9);
        Check.due("12 200 nodes", y.nodes(), 200);
        Check.due("21 the last node of 200", y.insert(199, 1, 6), 1);
        Check.file("21 the last node of 200", y, 4, 5, 6, 0, 9);
        Check.due("22 the last node of 200", y.remove(199, 0), 2);
        Check.file("22 the last node of 200", y, 3, 6, 0, 9);
        Check.due("14 of 200 nodes", y.wrong() + y.wrongByAll(), 0);
        Check.due("16 of 200 nodes", y.follow(1), 0);
        Check.due("19 of 200 nodes", y.findField(17, 3, 0), 1);
        Check.due("19 of 200 nodes there is none", y.findField(17, 4, 0), HexTemplates.NONE);
        Check.state("23 the last node of 200 is no array", () -> y.element(199, 0, true));
    }

    /** "What is left behind that stays as it is." */
    private static void left() {
        HexTemplates x = Check.with("F{n:b=#s;s:s(n);c:b=+s;}", 1, 5, 5, 77, 78, 0);
        x.insert(2, 1, 6);
        Check.file("21 what is left", x, 2, 5, 6, 11, 77, 78, 0);
        x.remove(2, 0);
        Check.file("22 what is left", x, 1, 6, 6, 77, 78, 0);
        x.remove(2, 0);
        Check.file("22 what is left", x, 0, 0, 77, 78, 0);
        x.repair();
        Check.file("24 what is left", x, 0, 0, 77, 78, 0);
    }

    /** "its parent is the one before"; "what is done there has that as its parent" */
    private static void parents() {
        HexTemplates x = Check.with("F{n:b=%a;z:z;a:E[n];}E{x:b;}", 1, 5, 0, 7);
        int[] parents = new int[30];
        parents[0] = HexTemplates.NONE;
        int[] sizes = new int[30];
        sizes[0] = 4;
        for (int k = 1; k < 30; k++) {
            int from = (k * 7 + 3) % k;
            Check.due("9 the size", x.goTo(from), sizes[from]);
            parents[k] = from;
            int state;
            switch (k % 6) {
                case 0: state = Check.give(x, 1, 5, 0, 7); break;
                case 1: state = x.repair(); break;
                case 2: state = x.insert(2, 0, 3); break;
                case 3: state = x.element(3, 0, true); break;
                case 4: state = x.set(5, 7); break;
                default: state = x.patch(from, from);
            }
            Check.due("7 the next number", state, k);
            Check.due("7 it is the present one", x.state(), k);
            sizes[k] = x.size();
        }
        for (int k = 0; k < 30; k++) {
            Check.due("8 parent of " + k, x.parent(k), parents[k]);
            Check.due("9 size of " + k, x.goTo(k), sizes[k]);
        }
        Check.index("8 parent of 30", () -> x.parent(30));
        Check.state("24 30 states", x::repair);
    }

    private static HexTemplates two(int[] first, int[] second, int... file) {
        HexTemplates x = new HexTemplates();
        Check.give(x, first);
        Check.give(x, second);
        Check.give(x, file);
        return x;
    }

    /** "behind their greatest common beginning, and ahead of the greatest common end of what is left of both" */
    private static void hunks() {
        hunk(row(), row(), 0, 0, 0);
        hunk(row(), row(1), 0, 0, 1);
        hunk(row(1), row(), 0, 1, 0);
        hunk(row(1), row(1), 1, 0, 0);
        hunk(row(1), row(2), 0, 1, 1);
        hunk(row(1), row(1, 1), 1, 0, 1);
        hunk(row(1, 1), row(1), 1, 1, 0);
        hunk(row(1, 2), row(2), 0, 1, 0);
        hunk(row(1, 2), row(1), 1, 1, 0);
        hunk(row(1, 2, 3), row(1, 3), 1, 1, 0);
        hunk(row(1, 2, 1), row(1), 1, 2, 0);
        hunk(row(1), row(1, 2, 1), 1, 0, 2);
        hunk(row(1, 2, 3), row(1, 4, 3), 1, 1, 1);
        hunk(row(1, 2, 3), row(4, 2, 5), 0, 3, 3);
        hunk(row(1, 2, 2, 3), row(1, 2, 3), 2, 1, 0);
        hunk(row(1, 2, 3), row(1, 2, 2, 3), 2, 0, 1);
        hunk(row(1, 2, 1, 2), row(1, 2, 1, 2, 1, 2), 4, 0, 2);
        hunk(row(1, 2, 1, 2, 1, 2), row(1, 2, 1, 2), 4, 2, 0);
        hunk(Check.many(160), Check.many(160), 160, 0, 0);
        hunk(Check.many(160), Check.many(159), 159, 1, 0);
        hunk(Check.many(160), row(), 0, 160, 0);
        hunk(row(), Check.many(160), 0, 0, 160);
        hunk(Check.many(160, 2), Check.many(160), 0, 1, 1);
        hunk(with(Check.many(160), 159, 2), Check.many(160), 159, 1, 1);
        hunk(with(Check.many(160), 159, 2), Check.many(160, 2), 0, 160, 160);
    }

    private static void hunk(int[] first, int[] second, int offset, int taken, int put) {
        HexTemplates x = two(first, second);
        String what = "25 " + java.util.Arrays.toString(first) + " " + java.util.Arrays.toString(second);
        Check.due(what + ", its offset", x.hunk(0, 1, 0), offset);
        Check.due(what + ", of the first", x.hunk(0, 1, 1), taken);
        Check.due(what + ", of the second", x.hunk(0, 1, 2), put);
        Check.due(what + ", back: its offset", x.hunk(1, 0, 0), offset);
        Check.due(what + ", back: of the first", x.hunk(1, 0, 1), put);
        Check.due(what + ", back: of the second", x.hunk(1, 0, 2), taken);
        Check.due(what + ", the state stays", x.state(), 2);
        Check.due(what + ", of one alone", x.hunk(0, 0, 0), first.length);
        Check.due(what + ", patched", x.goTo(0) >= 0 ? x.patch(0, 1) : 0, 3);
        Check.file(what + ", patched", x, second);
    }

    /** "at the offset of the hunk, or the nearest one (of two the lower one) at which there are these bytes" */
    private static void patchPlaces() {
        int[] first = row(9, 9, 9, 9, 9, 9, 9, 9, 9, 9, 1, 2, 9, 9, 9, 9, 9, 9, 9, 9);
        int[] second = first.clone();
        second[10] = 5;
        second[11] = 6;
        for (int one = 2; one <= 36; one++) {
            for (int other = one + 4; other <= 36; other++) {
                int[] file = new int[40];
                java.util.Arrays.fill(file, 9);
                file[one] = 1;
                file[one + 1] = 2;
                file[other] = 1;
                file[other + 1] = 2;
                HexTemplates x = two(first, second, file);
                int place = Math.abs(other - 10) < Math.abs(one - 10) ? other : one;
                Check.due("26 at " + one + " and " + other, x.patch(0, 1), 3);
                int[] due = file.clone();
                due[place] = 5;
                due[place + 1] = 6;
                Check.file("26 at " + one + " and " + other, x, due);
            }
        }
        int[] far = new int[160];
        far[158] = 1;
        far[159] = 2;
        HexTemplates x = two(row(1, 2, 0, 0), row(3, 0, 0), far);
        Check.state("26 the bytes behind are missing", () -> x.patch(0, 1));
        HexTemplates y = two(row(1, 2), row(3), far);
        Check.due("26 at the far end", y.patch(0, 1), 3);
        Check.due("26 it is there", y.byteAt(158), 3);
        int[] near = new int[160];
        near[0] = 1;
        int[] last = new int[160];
        last[159] = 1;
        HexTemplates z = two(last, with(last, 159, 4), near);
        Check.state("26 the bytes ahead are missing", () -> z.patch(0, 1));
        HexTemplates w = two(last, with(last, 159, 4), 0, 0, 1);
        Check.due("26 from the far end to the first place", w.patch(0, 1), 3);
        Check.file("26 it is there", w, 0, 0, 4);
        HexTemplates v = two(row(1), row(), with(far, 0, 7));
        Check.due("26 without the first byte there", v.patch(0, 1), 3);
        Check.due("5 one less", v.size(), 159);
        HexTemplates u = two(row(), row(5), Check.many(159));
        Check.due("26 nothing fits at once", u.patch(0, 1), 3);
        Check.due("26 it is put first", u.byteAt(0), 5);
    }

    /** "with the 2 bytes ahead of them and the 2 behind, as far as the first state has them there" */
    private static void patchContext() {
        for (int ahead = 0; ahead <= 4; ahead++) {
            for (int behind = 0; behind <= 4; behind++) {
                int[] first = new int[ahead + 1 + behind];
                for (int k = 0; k < first.length; k++) {
                    first[k] = 20 + k;
                }
                int[] second = with(first, ahead, 99);
                int low = Math.max(0, ahead - 2);
                int high = Math.min(first.length - 1, ahead + 2);
                for (int k = 0; k < first.length; k++) {
                    for (int shift = 0; shift < 3; shift++) {
                        int[] file = new int[first.length + shift];
                        System.arraycopy(first, 0, file, shift, first.length);
                        int[] other = with(file, k + shift, 200);
                        boolean isFit = k < low || k > high;
                        String what = "26 " + ahead + " ahead, " + behind + " behind, " + k + " is another one";
                        if (isFit) {
                            HexTemplates x = two(first, second, other);
                            Check.due(what, x.patch(0, 1), 3);
                            Check.file(what, x, with(other, ahead + shift, 99));
                        } else {
                            Check.state(what, () -> two(first, second, other), x -> x.patch(0, 1));
                        }
                    }
                }
                // only what has to be there, and then a byte less on each side
                int[] part = java.util.Arrays.copyOfRange(first, low, high + 1);
                HexTemplates x = two(first, second, part);
                Check.due("26 what has to be there", x.patch(0, 1), 3);
                Check.file("26 what has to be there", x, with(part, ahead - low, 99));
                int[] noFirst = java.util.Arrays.copyOfRange(first, low + 1, high + 1);
                int[] noLast = java.util.Arrays.copyOfRange(first, low, high);
                Check.state("26 without the first of it", () -> two(first, second, noFirst), y -> y.patch(0, 1));
                Check.state("26 without the last of it", () -> two(first, second, noLast), y -> y.patch(0, 1));
            }
        }
    }

    /** "the file would have more than 160 bytes" */
    private static void patchLengths() {
        for (int size = 156; size <= 160; size++) {
            for (int more = 0; more <= 5; more++) {
                int[] first = row(1, 1);
                int[] second = Check.many(2 + more);
                int[] file = Check.many(size);
                HexTemplates x = two(first, second, file);
                if (size + more <= 160) {
                    Check.due("26 " + size + " and " + more, x.patch(0, 1), 3);
                    Check.due("5 so many", x.size(), size + more);
                } else {
                    Check.state("26 " + size + " and " + more, () -> two(first, second, file), y -> y.patch(0, 1));
                }
                HexTemplates y = two(first, second, file);
                Check.due("26 " + size + " less " + more, y.patch(1, 0), 3);
                Check.due("5 so many less", y.size(), size - more);
            }
        }
    }
}
