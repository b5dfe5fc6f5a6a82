import java.lang.reflect.Constructor;
import java.lang.reflect.Field;
import java.lang.reflect.Method;
import java.lang.reflect.Modifier;
import java.nio.charset.StandardCharsets;
import java.nio.file.Files;
import java.nio.file.Path;
import java.util.Arrays;
import java.util.HashSet;
import java.util.Set;
import java.util.TreeSet;
import java.util.regex.Matcher;
import java.util.regex.Pattern;

/** The face that the document tells, and those rules of LANGUAGE.md that can be seen from the words of the file. */
public final class FaceTest {
    private static final String SOURCE = "src/main/java/HexTemplates.java";
    private static final String[] FACE = {
        "feed(long,int)", "give()", "template(int)", "size()", "byteAt(int)", "state()", "parent(int)", "goTo(int)",
        "chosen()", "fault(int,boolean)", "nodes()", "node(int,int)", "wrong()", "wrongByAll()", "follow(int)",
        "chain(int)", "find(int,int,int)", "findField(int,int,int)", "set(int,int)", "insert(int,int,int)",
        "remove(int,int)", "element(int,int,boolean)", "repair()", "hunk(int,int,int)", "patch(int,int)"};
    private static final String[] CONSTANTS = {"NONE=-1", "LOOPS=-2", "STRUCTURE=0", "ARRAY=1", "NUMBER=2", "REFERENCE=3",
        "BITS=4", "STRING=5", "FINE=0", "OUT=1", "MAGIC=2", "COUNT=3", "DEEP=4", "MANY=5"};
    private static final String[] RULED_OUT = {"import", "package", "->", "::", "Exact", "catch", "finally", "synchronized",
        "assert", "volatile", "transient", "native", "System.", "Thread", "Random", "static {", "@", "instanceof",
        "equals(", "hashCode", "toString", "protected", "Object", "Throwable", "\" +", "+ \""};

    public static void main(String[] args) throws Exception {
        face();
        fields();
        source();
        lengths();
        Check.end();
    }

    private static void face() throws Exception {
        Class<?> c = HexTemplates.class;
        Check.due("public and final", c.getModifiers() & (Modifier.PUBLIC | Modifier.FINAL), Modifier.PUBLIC | Modifier.FINAL);
        Set<String> methods = new TreeSet<>();
        Set<String> names = new HashSet<>();
        for (Method m : c.getDeclaredMethods()) {
            if (Modifier.isPublic(m.getModifiers())) {
                methods.add(text(m));
                names.add(m.getName());
            }
            same("returns of " + m.getName(), !Modifier.isPublic(m.getModifiers()) || m.getReturnType() == int.class, true);
        }
        same("methods", methods, new TreeSet<>(Arrays.asList(FACE)));
        for (Method m : c.getDeclaredMethods()) {
            if (!Modifier.isPublic(m.getModifiers())) {
                same(m.getName() + " is private", Modifier.isPrivate(m.getModifiers()), true);
                same(m.getName() + " has a name of its own", names.contains(m.getName()), false);
            }
        }
        Set<String> constants = new TreeSet<>();
        for (Field f : c.getDeclaredFields()) {
            if (Modifier.isPublic(f.getModifiers())) {
                constants.add(f.getName() + "=" + f.getInt(null));
            } else {
                same(f.getName() + " is private", Modifier.isPrivate(f.getModifiers()), true);
            }
        }
        same("constants", constants, new TreeSet<>(Arrays.asList(CONSTANTS)));
        Constructor<?>[] made = c.getDeclaredConstructors();
        same("constructors", made.length == 1 && Modifier.isPublic(made[0].getModifiers()), true);
        same("classes", c.getDeclaredClasses().length <= 12, true);
        for (Class<?> inner : c.getDeclaredClasses()) {
            same(inner.getName(), Modifier.isPrivate(inner.getModifiers()) && Modifier.isStatic(inner.getModifiers()), true);
            for (Method m : inner.getDeclaredMethods()) {
                same(m.getName() + " has at most seven parameters", m.getParameterCount() <= 7, true);
            }
        }
    }

    private static String text(Method m) {
        StringBuilder all = new StringBuilder(m.getName()).append('(');
        for (Class<?> p : m.getParameterTypes()) {
            all.append(all.charAt(all.length() - 1) == '(' ? "" : ",").append(p.getName());
        }
        return all.append(')').toString();
    }

    /** Rules 3, 5 and 11: the types of fields, static ones that are constants, and how many a class has. */
    private static void fields() {
        Set<Class<?>> own = new HashSet<>(Arrays.asList(HexTemplates.class.getDeclaredClasses()));
        own.add(HexTemplates.class);
        for (Class<?> c : own) {
            int count = 0;
            for (Field f : c.getDeclaredFields()) {
                Class<?> type = f.getType();
                String what = c.getSimpleName() + "." + f.getName();
                if (Modifier.isStatic(f.getModifiers())) {
                    same(what + " is final", Modifier.isFinal(f.getModifiers()), true);
                    same(what + " is a constant", type == int.class, true);
                } else {
                    count++;
                    Class<?> part = type.isArray() ? type.getComponentType() : type;
                    same(what + " has a type that is there", part == int.class || part == boolean.class || own.contains(part), true);
                }
            }
            same(c.getSimpleName() + " has some twenty fields", count <= 22, true);
        }
    }

    /** Rule 11: methods stay short. */
    private static void lengths() throws Exception {
        String name = "";
        int from = 0;
        int at = 0;
        for (String line : Files.readAllLines(Path.of(SOURCE), StandardCharsets.ISO_8859_1)) {
            at++;
            if (line.matches(" {4,8}(?! )(?:(?:public|private|static) )*[A-Za-z\\[\\]]+(?: [A-Za-z]+)?\\(.*")) {
                name = line.trim();
                from = at;
            } else if (line.matches(" {4,8}\\}") && from > 0) {
                same(name + " is short", at - from <= 60, true);
                from = 0;
            }
        }
        same("methods are found", !name.isEmpty(), true);
    }

    private static void source() throws Exception {
        String text = new String(Files.readAllBytes(Path.of(SOURCE)), StandardCharsets.ISO_8859_1);
        String code = text.replaceAll("(?s)/\\*.*?\\*/", "").replaceAll("//[^\n]*", "");
        for (String word : RULED_OUT) {
            same("the file without " + word, code.contains(word), false);
        }
        same("signs 1 to 127", text.chars().allMatch(c -> c > 0 && c < 128), true);
        Matcher thrown = Pattern.compile("throw (?!new (?:IllegalStateException|IllegalArgumentException|"
            + "IndexOutOfBoundsException)\\(\"[^\"]*\"\\);)").matcher(code);
        same("only what the document tells is thrown", thrown.find(), false);
    }

    private static void same(String what, Object got, Object due) {
        if (!got.equals(due)) {
            System.out.println(what + ": " + got);
            Check.due(what, 0, 1);
        }
    }
}
