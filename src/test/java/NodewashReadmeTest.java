import java.io.IOException;
import java.lang.reflect.Method;
import java.lang.reflect.Modifier;
import java.nio.file.Files;
import java.nio.file.Path;
import java.util.ArrayList;
import java.util.List;

/** The README's example, and whether its table tells of each call of the face. */
public final class NodewashReadmeTest {
    private static int wrong = 0;
    private static int line = 0;
    private static final List<String> example = new ArrayList<>();

    private static void must(boolean holds, String what) {
        if (!holds) {
            wrong++;
            System.out.println(what);
        }
    }

    /** The next line of the example must be this call, and what is written behind it the answer. */
    private static void due(String call, long answer) {
        String text = line < example.size() ? example.get(line) : "";
        line++;
        must(text.startsWith(call + ";"), "the README's line is \"" + text + "\", played is " + call);
        String note = text.contains("// ") ? text.substring(text.indexOf("// ") + 3) : "";
        must(note.matches(answer + "([:,; ].*)?"), "answered " + answer + ", the README's line is \"" + text + "\"");
    }

    private static void read(List<String> readme) {
        int from = readme.indexOf("```java");
        for (int i = from + 1; i < readme.size() && !readme.get(i).equals("```"); i++) {
            example.add(readme.get(i));
        }
    }

    private static void play() {
        Nodewash x = new Nodewash();
        must(example.get(line++).equals("Nodewash x = new Nodewash();"), "the README's first line");
        int home = x.makeDirectory(1, 7);
        due("int home = x.makeDirectory(1, 7)", home);
        int file = x.create(home, 5);
        due("int file = x.create(home, 5)", file);
        due("x.write(file, 0, 0x4241L, 2)", x.write(file, 0, 0x4241L, 2));
        due("x.rename(home, 5, 1, 6)", x.rename(home, 5, 1, 6));
        due("x.cut(3)", x.cut(3));
        due("x.write(file, 2, 0x43L, 8)", x.write(file, 2, 0x43L, 8));
        due("x.mount(true)", x.mount(true));
        due("x.length(file)", x.length(file));
        due("x.byteAt(file, 1)", x.byteAt(file, 1));
        due("x.dead(0)", x.dead(0));
        must(line == example.size(), "the README's example has lines that are not played");
    }

    private static void table(List<String> readme) {
        StringBuilder rows = new StringBuilder();
        for (String text : readme) {
            if (text.startsWith("|")) {
                rows.append(text.split("\\|")[1]);
            }
        }
        for (Method m : Nodewash.class.getDeclaredMethods()) {
            must(!Modifier.isPublic(m.getModifiers()) || rows.indexOf("`" + m.getName() + "(") >= 0,
                    "the README's table does not tell of " + m.getName());
        }
    }

    public static void main(String[] args) throws IOException {
        List<String> readme = Files.readAllLines(Path.of("README.md"));
        read(readme);
        play();
        table(readme);
        System.out.println(wrong == 0 ? "the README holds" : wrong + " things of the README do not hold");
        if (wrong != 0) {
            System.exit(1);
        }
    }
}
