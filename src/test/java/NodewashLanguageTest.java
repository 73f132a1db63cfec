import java.io.IOException;
import java.lang.reflect.Field;
import java.lang.reflect.Method;
import java.lang.reflect.Modifier;
import java.nio.file.Files;
import java.nio.file.Path;
import java.util.ArrayList;
import java.util.List;
import java.util.TreeSet;

/** What can be seen of the face and of LANGUAGE.md without running the program. */
public final class NodewashLanguageTest {
    private static final String[] FACE = {"create", "makeDirectory", "link", "unlink", "rename", "write", "truncate",
        "collect", "cut", "mount", "isDark", "lookUp", "names", "nameAt", "isDirectory", "links", "length", "byteAt",
        "byteByNodes", "state", "dead", "toCopy", "written", "nodes", "node", "erased"};
    private static final String[] FORBIDDEN = {"import ", "package ", "finally", "synchronized", "assert ", "->", "::",
        "System.", "Thread", "catch", "native ", "volatile", "transient", "Object", "MAX_VALUE", "MIN_VALUE",
        "Exact", "hashCode", "equals(", "toString", "protected", "double", "float"};
    private static int wrong = 0;

    private static void must(boolean holds, String what) {
        if (!holds) {
            wrong++;
            System.out.println(what);
        }
    }

    private static void face() {
        TreeSet<String> want = new TreeSet<>(List.of(FACE));
        TreeSet<String> seen = new TreeSet<>();
        for (Method m : Nodewash.class.getDeclaredMethods()) {
            if (Modifier.isPublic(m.getModifiers())) {
                must(seen.add(m.getName()), "twice in the face: " + m.getName());
            } else {
                must(Modifier.isPrivate(m.getModifiers()), "neither public nor private: " + m.getName());
                must(!want.contains(m.getName()), "a private method with a public one's name: " + m.getName());
            }
        }
        must(seen.equals(want), "the face is " + seen);
        for (Field f : Nodewash.class.getDeclaredFields()) {
            int mods = f.getModifiers();
            must(Modifier.isFinal(mods) && (Modifier.isPublic(mods) && Modifier.isStatic(mods)
                    || Modifier.isPrivate(mods)), "a field that is not of the face: " + f.getName());
        }
        must(Nodewash.class.getDeclaredConstructors().length == 1, "more than one constructor");
        must(Modifier.isFinal(Nodewash.class.getModifiers()), "the class is not final");
        must(Nodewash.class.getDeclaredClasses().length <= 12, "more than twelve classes");
        for (Class<?> c : Nodewash.class.getDeclaredClasses()) {
            inside(c, want);
        }
    }

    private static void inside(Class<?> c, TreeSet<String> face) {
        must(Modifier.isStatic(c.getModifiers()), "not static: " + c.getName());
        int fields = 0;
        for (Field f : c.getDeclaredFields()) {
            boolean constant = Modifier.isStatic(f.getModifiers());
            must(!constant || Modifier.isFinal(f.getModifiers()), "static state: " + c.getName() + "." + f.getName());
            fields += constant ? 0 : 1;
        }
        must(fields <= 20, "more than twenty fields: " + c.getName());
        for (Method m : c.getDeclaredMethods()) {
            must(!face.contains(m.getName()), "a method with a public one's name: " + m.getName());
            must(m.getParameterCount() <= 7, "more than seven parameters: " + m.getName());
        }
    }

    private static void text() throws IOException {
        List<String> lines = Files.readAllLines(Path.of("src/main/java/Nodewash.java"));
        List<Integer> opened = new ArrayList<>();
        for (int i = 0; i < lines.size(); i++) {
            String line = lines.get(i);
            for (String word : FORBIDDEN) {
                must(!line.contains(word), "line " + (i + 1) + " has " + word);
            }
            for (char sign : line.toCharArray()) {
                must(sign > 0 && sign < 128, "line " + (i + 1) + " has the sign " + (int) sign);
                if (sign == '{') {
                    opened.add(i);
                } else if (sign == '}') {
                    int from = opened.remove(opened.size() - 1);
                    boolean isClass = lines.get(from).contains(" class ");
                    must(isClass || i - from <= 60, "more than sixty lines from " + (from + 1));
                }
            }
        }
        must(opened.isEmpty(), "braces");
    }

    public static void main(String[] args) throws IOException {
        face();
        text();
        System.out.println(wrong == 0 ? "the face and the language are kept" : wrong + " rules are broken");
        if (wrong != 0) {
            System.exit(1);
        }
    }
}
