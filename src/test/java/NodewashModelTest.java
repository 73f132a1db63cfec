import java.util.ArrayList;
import java.util.Arrays;
import java.util.HashMap;
import java.util.List;
import java.util.Map;
import java.util.TreeMap;

/**
 * Long runs of drawn calls on Nodewash and on a slow model, which keeps lists and maps and follows the
 * document's words one by one. The draws come from a fixed row of numbers, so each run is always the same.
 */
public final class NodewashModelTest {
    static final int NONE = -1;
    static final int DARK = -9;
    static final int CALLS = 512;

    /** Thrown in the model when the power goes. */
    static final class PowerGone extends RuntimeException {
        private static final long serialVersionUID = 1L;
    }

    static final class Node {
        int kind;
        int number;
        int version;
        int offset;
        int[] bytes = new int[0];
        int length;
        int name;
        int target;
        boolean directory;
        int units;
        int present;

        boolean whole() {
            return units == present;
        }

        boolean sameAs(Node o) {
            return kind == o.kind && number == o.number && version == o.version;
        }

        Node copy() {
            Node c = new Node();
            c.kind = kind;
            c.number = number;
            c.version = version;
            c.offset = offset;
            c.bytes = bytes;
            c.length = length;
            c.name = name;
            c.target = target;
            c.directory = directory;
            c.units = units;
            return c;
        }
    }

    static final class Block {
        boolean marker = true;
        int erased;
        List<Node> nodes = new ArrayList<>();

        int used() {
            int sum = marker ? 1 : 0;
            for (Node n : nodes) {
                sum += n.present;
            }
            return sum;
        }
    }

    /** What a row of nodes tells. */
    static final class Told {
        TreeMap<Integer, TreeMap<Integer, Integer>> directories = new TreeMap<>();
        TreeMap<Integer, List<Integer>> files = new TreeMap<>();
        Map<Integer, Node[]> layers = new HashMap<>();
        Map<Integer, Node> last = new HashMap<>();
        List<Node> counting = new ArrayList<>();

        Told(List<Node> nodes) {
            readDirectory(1, nodes);
            for (int file : files.keySet()) {
                readFile(file, nodes);
            }
        }

        void readDirectory(int number, List<Node> nodes) {
            TreeMap<Integer, Node> best = new TreeMap<>();
            for (Node n : nodes) {
                if (n.whole() && n.kind == 2 && n.number == number) {
                    Node b = best.get(n.name);
                    if (b == null || n.version > b.version) {
                        best.put(n.name, n);
                    }
                }
            }
            TreeMap<Integer, Integer> names = new TreeMap<>();
            directories.put(number, names);
            for (Node n : best.values()) {
                counting.add(n);
                if (n.target != 0) {
                    names.put(n.name, n.target);
                    if (!n.directory) {
                        files.put(n.target, null);
                    } else if (!directories.containsKey(n.target)) {
                        readDirectory(n.target, nodes);
                    }
                }
            }
        }

        void readFile(int number, List<Node> nodes) {
            TreeMap<Integer, Node> rising = new TreeMap<>();
            for (Node n : nodes) {
                if (n.whole() && n.kind == 1 && n.number == number && !rising.containsKey(n.version)) {
                    rising.put(n.version, n);
                }
            }
            int[] content = new int[64];
            Node[] layer = new Node[64];
            int length = 0;
            for (Node n : rising.values()) {
                for (int i = n.length; i < 64; i++) {
                    content[i] = 0;
                    layer[i] = null;
                }
                length = n.length;
                for (int i = 0; i < n.bytes.length; i++) {
                    content[n.offset + i] = n.bytes[i];
                    layer[n.offset + i] = n;
                }
                last.put(number, n);
            }
            List<Integer> shown = new ArrayList<>();
            for (int i = 0; i < length; i++) {
                shown.add(content[i]);
            }
            files.put(number, shown);
            layers.put(number, layer);
        }

        boolean same(Told o) {
            return directories.equals(o.directories) && files.equals(o.files);
        }
    }

    static final class Model {
        Block[] blocks = new Block[8];
        List<Integer> free = new ArrayList<>();
        List<Integer> closed = new ArrayList<>();
        int current = NONE;
        int cut = NONE;
        boolean dark;
        int next = 2;
        TreeMap<Integer, TreeMap<Integer, Integer>> directories = new TreeMap<>();
        TreeMap<Integer, int[]> files = new TreeMap<>();
        Map<Integer, Integer> versions = new HashMap<>();

        Model() {
            for (int i = 0; i < 8; i++) {
                blocks[i] = new Block();
                free.add(i);
            }
            directories.put(1, new TreeMap<>());
        }

        void light() {
            if (dark) {
                throw new IllegalStateException();
            }
        }

        void index(boolean fine) {
            if (!fine) {
                throw new IndexOutOfBoundsException();
            }
        }

        void argument(boolean fine) {
            if (!fine) {
                throw new IllegalArgumentException();
            }
        }

        void state(boolean fine) {
            if (!fine) {
                throw new IllegalStateException();
            }
        }

        TreeMap<Integer, Integer> dir(int d) {
            light();
            index(directories.containsKey(d));
            return directories.get(d);
        }

        void file(int f) {
            light();
            index(files.containsKey(f));
        }

        void unit() {
            if (cut == 0) {
                cut = NONE;
                dark = true;
                throw new PowerGone();
            }
            if (cut > 0) {
                cut--;
            }
        }

        boolean goesIn(Block b, int units) {
            return b.used() + units + 1 + b.nodes.size() + 1 <= 40;
        }

        boolean room(List<Integer> sizes, int spare) {
            int used = current == NONE ? 99 : blocks[current].used();
            int count = current == NONE ? 0 : blocks[current].nodes.size();
            for (int s : sizes) {
                if (used + s + 1 + count + 1 > 40) {
                    if (spare < 1) {
                        return false;
                    }
                    spare--;
                    used = 1;
                    count = 0;
                }
                used += s;
                count++;
            }
            return true;
        }

        void append(Block b, Node n) {
            for (int i = 0; i < n.units; i++) {
                unit();
                if (i == 0) {
                    b.nodes.add(n);
                }
                n.present++;
            }
        }

        void put(Node n) {
            if (current == NONE || !goesIn(blocks[current], n.units)) {
                if (current != NONE) {
                    Node s = new Node();
                    s.kind = 3;
                    s.units = 1 + blocks[current].nodes.size();
                    append(blocks[current], s);
                    closed.add(current);
                }
                current = free.remove(0);
            }
            append(blocks[current], n);
        }

        void erase(int b) {
            unit();
            blocks[b].nodes.clear();
            blocks[b].marker = false;
            blocks[b].erased++;
            unit();
            blocks[b].marker = true;
        }

        Node data(int f, int offset, int[] bytes, int length) {
            Node n = new Node();
            n.kind = 1;
            n.number = f;
            n.version = versions.merge(f, 1, Integer::sum);
            n.offset = offset;
            n.bytes = bytes;
            n.length = length;
            n.units = 2 + bytes.length;
            return n;
        }

        Node named(int d, int name, int target, boolean isDirectory) {
            Node n = new Node();
            n.kind = 2;
            n.number = d;
            n.version = versions.merge(d, 1, Integer::sum);
            n.name = name;
            n.target = target;
            n.directory = isDirectory;
            n.units = 3;
            return n;
        }

        void forget(int number) {
            if (countLinks(number) == 0) {
                files.remove(number);
                directories.remove(number);
            }
        }

        int countLinks(int number) {
            int sum = 0;
            for (TreeMap<Integer, Integer> names : directories.values()) {
                for (int t : names.values()) {
                    sum += t == number ? 1 : 0;
                }
            }
            return sum;
        }

        List<Integer> sizes(int... s) {
            List<Integer> l = new ArrayList<>();
            for (int x : s) {
                l.add(x);
            }
            return l;
        }

        long create(int d, int name) {
            TreeMap<Integer, Integer> names = dir(d);
            argument(name >= 1 && name <= 99);
            state(!names.containsKey(name));
            state(room(sizes(2, 3), free.size() - 1));
            int number = next++;
            versions.put(number, 0);
            put(data(number, 0, new int[0], 0));
            put(named(d, name, number, false));
            files.put(number, new int[0]);
            names.put(name, number);
            return number;
        }

        long makeDirectory(int d, int name) {
            TreeMap<Integer, Integer> names = dir(d);
            argument(name >= 1 && name <= 99);
            state(!names.containsKey(name));
            state(room(sizes(3), free.size() - 1));
            int number = next++;
            versions.put(number, 0);
            put(named(d, name, number, true));
            directories.put(number, new TreeMap<>());
            names.put(name, number);
            return number;
        }

        long link(int d, int name, int f) {
            TreeMap<Integer, Integer> names = dir(d);
            file(f);
            argument(name >= 1 && name <= 99);
            state(!names.containsKey(name));
            state(room(sizes(3), free.size() - 1));
            put(named(d, name, f, false));
            names.put(name, f);
            return countLinks(f);
        }

        long unlink(int d, int name) {
            TreeMap<Integer, Integer> names = dir(d);
            argument(name >= 1 && name <= 99);
            state(names.containsKey(name));
            int number = names.get(name);
            state(!directories.containsKey(number) || directories.get(number).isEmpty());
            state(room(sizes(3), free.size() - 1));
            put(named(d, name, 0, false));
            names.remove(name);
            forget(number);
            return number;
        }

        boolean below(int high, int low) {
            if (high == low) {
                return true;
            }
            for (int t : directories.get(high).values()) {
                if (directories.containsKey(t) && below(t, low)) {
                    return true;
                }
            }
            return false;
        }

        long rename(int d, int name, int to, int toName) {
            TreeMap<Integer, Integer> names = dir(d);
            TreeMap<Integer, Integer> toNames = dir(to);
            argument(name >= 1 && name <= 99 && toName >= 1 && toName <= 99);
            state(names.containsKey(name));
            int number = names.get(name);
            boolean isDirectory = directories.containsKey(number);
            Integer taken = toNames.get(toName);
            if (taken != null) {
                state(taken != number);
                state(!isDirectory && !directories.containsKey(taken));
            }
            state(!isDirectory || !below(number, to));
            state(room(sizes(3, 3), free.size() - 1));
            put(named(to, toName, number, isDirectory));
            put(named(d, name, 0, false));
            toNames.put(toName, number);
            names.remove(name);
            if (taken != null) {
                forget(taken);
            }
            return number;
        }

        long write(int f, int offset, long bytes, int n) {
            file(f);
            argument(offset >= 0 && offset <= 63 && n >= 1 && n <= 8 && offset + n <= 64);
            state(room(sizes(2 + n), free.size() - 1));
            int[] laid = new int[n];
            for (int i = 0; i < n; i++) {
                laid[i] = (int) (bytes >> 8 * i & 255);
            }
            int[] old = files.get(f);
            int[] content = Arrays.copyOf(old, Math.max(old.length, offset + n));
            put(data(f, offset, laid, content.length));
            System.arraycopy(laid, 0, content, offset, n);
            files.put(f, content);
            return content.length;
        }

        long truncate(int f, int length) {
            file(f);
            argument(length >= 0 && length <= 64);
            state(room(sizes(2), free.size() - 1));
            put(data(f, 0, new int[0], length));
            int before = files.get(f).length;
            files.put(f, Arrays.copyOf(files.get(f), length));
            return before;
        }

        List<Node> all() {
            List<Node> l = new ArrayList<>();
            for (Block b : blocks) {
                l.addAll(b.nodes);
            }
            return l;
        }

        boolean isDead(Node n, Told told) {
            if (!n.whole()) {
                return true;
            }
            if (n.kind == 3) {
                return false;
            }
            for (Node o : all()) {
                if (o.whole() && o.sameAs(n)) {
                    if (o != n) {
                        return true;
                    }
                    break;
                }
            }
            if (n.kind == 2) {
                boolean counts = false;
                for (Node c : told.counting) {
                    counts |= c.sameAs(n);
                }
                return !counts || n.target == 0;
            }
            if (!told.files.containsKey(n.number)) {
                return true;
            }
            if (told.last.get(n.number).sameAs(n)) {
                return false;
            }
            for (Node layer : told.layers.get(n.number)) {
                if (layer != null && layer.sameAs(n)) {
                    return false;
                }
            }
            return true;
        }

        long dead(int b) {
            light();
            index(b >= 0 && b < 8);
            Told told = new Told(all());
            int sum = 0;
            for (Node n : blocks[b].nodes) {
                sum += isDead(n, told) ? n.present : 0;
            }
            return sum;
        }

        long stateOf(int b) {
            light();
            index(b >= 0 && b < 8);
            if (free.contains(b)) {
                return 0;
            }
            if (current == b) {
                return 1;
            }
            int sum = 0;
            for (Node n : blocks[b].nodes) {
                sum += n.kind == 3 && n.whole() ? 0 : n.present;
            }
            long deadOnes = dead(b);
            return deadOnes == 0 ? 2 : 2 * deadOnes >= sum ? 4 : 3;
        }

        /** The nodes to copy, found without writing: the copies stand in a row of their own. */
        List<Node> copies(int b) {
            Told told = new Told(all());
            List<Node> others = new ArrayList<>();
            for (int i = 0; i < 8; i++) {
                if (i != b) {
                    others.addAll(blocks[i].nodes);
                }
            }
            List<Node> chosen = new ArrayList<>();
            List<Node> row = blocks[b].nodes;
            for (int i = 0; i < row.size(); i++) {
                Node n = row.get(i);
                if (!n.whole() || n.kind == 3) {
                    continue;
                }
                List<Node> without = new ArrayList<>(others);
                without.addAll(chosen);
                without.addAll(row.subList(i + 1, row.size()));
                List<Node> with = new ArrayList<>(without);
                with.add(n);
                if (!isDead(n, told) || !new Told(with).same(new Told(without))) {
                    chosen.add(n);
                }
            }
            return chosen;
        }

        long toCopy(int b) {
            light();
            index(b >= 0 && b < 8);
            return copies(b).size();
        }

        long collect(int draw) {
            light();
            argument(draw >= 0 && draw <= 127);
            state(!closed.isEmpty());
            int[] row = {4, 3, 2};
            int first = draw < 64 ? 0 : draw < 120 ? 1 : 2;
            int victim = NONE;
            for (int k = 0; k < 3 && victim == NONE; k++) {
                for (int b : closed) {
                    if (victim == NONE && stateOf(b) == row[(first + k) % 3]) {
                        victim = b;
                    }
                }
            }
            List<Node> chosen = copies(victim);
            List<Integer> s = new ArrayList<>();
            for (Node n : chosen) {
                s.add(n.units);
            }
            state(room(s, free.size()));
            for (Node n : chosen) {
                put(n.copy());
            }
            erase(victim);
            closed.remove((Integer) victim);
            free.add(victim);
            return victim;
        }

        long cut(int units) {
            argument(units >= -1 && units <= 1000);
            int left = cut;
            cut = units;
            return left;
        }

        long mount(boolean bySummaries) {
            int read = 0;
            free.clear();
            closed.clear();
            current = NONE;
            dark = false;
            for (int i = 0; i < 8; i++) {
                Block b = blocks[i];
                boolean torn = false;
                Node summary = null;
                for (Node n : b.nodes) {
                    torn |= !n.whole();
                    summary = n.kind == 3 ? n : summary;
                }
                boolean summed = summary != null && summary.whole();
                read += bySummaries && summed ? 1 + summary.units : b.used();
                if (b.marker && b.nodes.isEmpty()) {
                    free.add(i);
                }
                if (!b.nodes.isEmpty() && !torn && summary == null && goesIn(b, 2)
                        && (current == NONE || b.used() < blocks[current].used())) {
                    current = i;
                }
            }
            for (int i = 0; i < 8; i++) {
                if (!blocks[i].nodes.isEmpty() && i != current) {
                    closed.add(i);
                }
            }
            Told told = new Told(all());
            directories = told.directories;
            files.clear();
            for (int f : told.files.keySet()) {
                List<Integer> c = told.files.get(f);
                int[] content = new int[c.size()];
                for (int i = 0; i < content.length; i++) {
                    content[i] = c.get(i);
                }
                files.put(f, content);
            }
            next = 2;
            versions.clear();
            for (Node n : all()) {
                if (n.whole() && n.kind != 3) {
                    next = Math.max(next, Math.max(n.number, n.target) + 1);
                    versions.merge(n.number, n.version, Math::max);
                }
            }
            for (int i = 0; i < 8; i++) {
                if (!blocks[i].marker) {
                    erase(i);
                    free.add(i);
                }
            }
            return read;
        }

        long call(int kind, int a, int b, int c, int d, long bytes) {
            try {
                return kind < 10 ? change(kind, a, b, c, d, bytes) : kind < 18 ? ask(kind, a, b) : look(kind, a, b);
            } catch (PowerGone gone) {
                return DARK;
            }
        }

        long change(int kind, int a, int b, int c, int d, long bytes) {
            switch (kind) {
                case 0: return create(a, b);
                case 1: return makeDirectory(a, b);
                case 2: return link(a, b, c);
                case 3: return unlink(a, b);
                case 4: return rename(a, b, c, d);
                case 5: return write(a, b, bytes, c);
                case 6: return truncate(a, b);
                case 7: return collect(a);
                case 8: return cut(a);
                default: return mount(a != 0);
            }
        }

        long ask(int kind, int a, int b) {
            if (kind == 10) {
                TreeMap<Integer, Integer> names = dir(a);
                argument(b >= 1 && b <= 99);
                return names.getOrDefault(b, NONE);
            }
            if (kind == 11) {
                return dir(a).size();
            }
            if (kind == 12) {
                TreeMap<Integer, Integer> names = dir(a);
                index(b >= 0 && b < names.size());
                return new ArrayList<>(names.keySet()).get(b);
            }
            if (kind == 13 || kind == 14) {
                light();
                index(files.containsKey(a) || directories.containsKey(a));
                return kind == 13 ? directories.containsKey(a) ? 1 : 0 : countLinks(a);
            }
            file(a);
            if (kind == 15) {
                return files.get(a).length;
            }
            index(b >= 0 && b < files.get(a).length);
            return kind == 16 ? files.get(a)[b] : new Told(all()).files.get(a).get(b);
        }

        long look(int kind, int a, int b) {
            if (kind == 18) {
                return stateOf(a);
            }
            if (kind == 19) {
                return dead(a);
            }
            if (kind == 20) {
                return toCopy(a);
            }
            if (kind == 25) {
                return dark ? 1 : 0;
            }
            index(a >= 0 && a < 8);
            Block block = blocks[a];
            if (kind == 21) {
                return block.used();
            }
            if (kind == 22) {
                return block.nodes.size();
            }
            if (kind == 24) {
                return block.erased;
            }
            index(b >= 0 && b < block.nodes.size());
            Node n = block.nodes.get(b);
            return n.whole() ? n.kind + 10L * n.present + 1000L * n.number + 1000000L * n.version
                    : 4 + 10L * n.present;
        }
    }

    static final String[] CALL_NAMES = {"create", "makeDirectory", "link", "unlink", "rename", "write",
        "truncate", "collect", "cut", "mount", "lookUp", "names", "nameAt", "isDirectory", "links", "length",
        "byteAt", "byteByNodes", "state", "dead", "toCopy", "written", "nodes", "node", "erased", "isDark"};

    static long real(Nodewash x, int kind, int a, int b, int c, int d, long bytes) {
        switch (kind) {
            case 0: return x.create(a, b);
            case 1: return x.makeDirectory(a, b);
            case 2: return x.link(a, b, c);
            case 3: return x.unlink(a, b);
            case 4: return x.rename(a, b, c, d);
            case 5: return x.write(a, b, bytes, c);
            case 6: return x.truncate(a, b);
            case 7: return x.collect(a);
            case 8: return x.cut(a);
            case 9: return x.mount(a != 0);
            case 10: return x.lookUp(a, b);
            case 11: return x.names(a);
            case 12: return x.nameAt(a, b);
            case 13: return x.isDirectory(a) ? 1 : 0;
            case 14: return x.links(a);
            case 15: return x.length(a);
            case 16: return x.byteAt(a, b);
            case 17: return x.byteByNodes(a, b);
            case 18: return x.state(a);
            case 19: return x.dead(a);
            case 20: return x.toCopy(a);
            case 21: return x.written(a);
            case 22: return x.nodes(a);
            case 23: return x.node(a, b);
            case 24: return x.erased(a);
            default: return x.isDark() ? 1 : 0;
        }
    }

    /** A fixed row of numbers. */
    static final class Draws {
        long seed;

        Draws(long s) {
            seed = s * 7919 + 12345;
        }

        int below(int n) {
            seed = seed * 6364136223846793005L + 1442695040888963407L;
            return (int) ((seed >>> 33) % n);
        }

        long any() {
            long v = 0;
            for (int i = 0; i < 8; i++) {
                v = v << 8 | below(256);
            }
            return v;
        }
    }

    static final class Run {
        final int id;
        final Draws draws;
        final Nodewash x = new Nodewash();
        final Model m = new Model();
        final int style;
        final int[] seen = new int[64];
        int calls;
        int wrong;

        Run(int itsId) {
            id = itsId;
            draws = new Draws(itsId);
            style = itsId % 8;
        }

        long call(int kind, int a, int b, int c, int d, long bytes) {
            calls++;
            String want;
            String got;
            long value = 0;
            try {
                value = m.call(kind, a, b, c, d, bytes);
                want = Long.toString(value);
            } catch (RuntimeException e) {
                want = e.getClass().getSimpleName();
            }
            try {
                got = Long.toString(real(x, kind, a, b, c, d, bytes));
            } catch (RuntimeException e) {
                got = e.getClass().getSimpleName();
            }
            counts(kind, want);
            if (!want.equals(got)) {
                wrong++;
                System.out.println("run " + id + ", call " + calls + ": " + CALL_NAMES[kind] + "(" + a + ", " + b
                        + ", " + c + ", " + d + ", " + bytes + ") answered " + got + ", due is " + want);
            }
            return value;
        }

        void counts(int kind, String want) {
            String key = CALL_NAMES[kind] + (want.endsWith("Exception") ? " " + want
                    : kind < 10 && want.equals("-9") ? " DARK" : "");
            tally.merge(key, 1, Integer::sum);
        }

        int name() {
            if (draws.below(60) == 0) {
                return draws.below(2) * 100 - draws.below(2);
            }
            return 1 + draws.below(style < 4 ? 4 : 12) * (draws.below(5) == 0 ? 8 : 1);
        }

        int directory() {
            if (draws.below(60) == 0) {
                return draws.below(12) - 2;
            }
            Integer[] d = m.directories.keySet().toArray(new Integer[0]);
            return d.length == 0 ? 1 : d[draws.below(d.length)];
        }

        int file() {
            if (draws.below(60) == 0 || m.files.isEmpty()) {
                return draws.below(12) - 2;
            }
            Integer[] f = m.files.keySet().toArray(new Integer[0]);
            return f[draws.below(style % 2 == 0 ? Math.min(3, f.length) : f.length)];
        }

        int usedName(int directory) {
            TreeMap<Integer, Integer> names = m.directories.get(directory);
            if (names == null || names.isEmpty() || draws.below(10) == 0) {
                return name();
            }
            Integer[] n = names.keySet().toArray(new Integer[0]);
            return n[draws.below(n.length)];
        }

        long bytes() {
            int way = draws.below(4);
            return way == 0 ? 0 : way == 1 ? draws.below(2) : draws.any();
        }

        void change() {
            int way = draws.below(100);
            int home = directory();
            if (m.dark && way > 8 && way < 30) {
                call(8, draws.below(3) == 0 ? NONE : draws.below(3), 0, 0, 0, 0);
            } else if (m.dark && way > 8) {
                call(9, draws.below(2), 0, 0, 0, 0);
            } else if (way < 10) {
                call(0, home, name(), 0, 0, 0);
            } else if (way < 15) {
                call(1, home, name(), 0, 0, 0);
            } else if (way < 21) {
                call(2, home, name(), file(), 0, 0);
            } else if (way < 31) {
                call(3, home, usedName(home), 0, 0, 0);
            } else if (way < 41) {
                int to = directory();
                call(4, home, usedName(home), to, draws.below(3) == 0 ? usedName(to) : name(), 0);
            } else if (way < 57) {
                int offset = draws.below(40) == 0 ? draws.below(70) - 3 : draws.below(style < 3 ? 10 : 60);
                call(5, file(), offset, draws.below(30) == 0 ? draws.below(12) - 1 : 1 + draws.below(8), 0, bytes());
            } else if (way < 67) {
                call(6, file(), draws.below(30) == 0 ? draws.below(80) - 8 : draws.below(30), 0, 0, 0);
            } else if (way < 87) {
                call(7, draws.below(30) == 0 ? draws.below(140) - 5 : draws.below(128), 0, 0, 0, 0);
            } else if (way < 92) {
                call(9, draws.below(2), 0, 0, 0, 0);
            } else {
                cutSoon();
            }
        }

        void cutSoon() {
            int way = draws.below(20);
            int units = way == 0 ? draws.below(1004) - 2 : way < 4 ? NONE : draws.below(style % 3 == 0 ? 12 : 45);
            call(8, units, 0, 0, 0, 0);
        }

        void look() {
            int kind = 10 + draws.below(16);
            int block = draws.below(50) == 0 ? draws.below(2) * 9 - 1 : draws.below(8);
            if (kind == 10) {
                int home = directory();
                call(kind, home, usedName(home), 0, 0, 0);
            } else if (kind == 11 || kind == 12) {
                call(kind, directory(), draws.below(6) - 1, 0, 0, 0);
            } else if (kind == 13 || kind == 14) {
                call(kind, draws.below(2) == 0 ? file() : directory(), 0, 0, 0, 0);
            } else if (kind < 18) {
                call(kind, file(), draws.below(4) == 0 ? draws.below(70) - 3 : draws.below(12), 0, 0, 0);
            } else {
                call(kind, block, draws.below(14) - 1, 0, 0, 0);
            }
        }

        void lookAtAllBlocks() {
            for (int block = 0; block < 8; block++) {
                for (int kind = 18; kind < 23; kind++) {
                    call(kind, block, 0, 0, 0, 0);
                }
                call(24, block, 0, 0, 0, 0);
            }
        }

        void lookAtAllFiles() {
            for (int number : new ArrayList<>(m.files.keySet())) {
                call(15, number, 0, 0, 0, 0);
                call(14, number, 0, 0, 0, 0);
                for (int place = 0; place < 64 && calls < CALLS - 1; place += 1 + draws.below(5)) {
                    call(16, number, place, 0, 0, 0);
                    call(17, number, place, 0, 0, 0);
                }
            }
        }

        int play(int deep) {
            while (calls < (deep > 0 ? deep : CALLS) && wrong == 0) {
                change();
                if (deep > 0) {
                    lookAtAllBlocks();
                    lookAtAllFiles();
                } else if (calls < CALLS && draws.below(3) == 0) {
                    look();
                    if (draws.below(40) == 0 && calls < CALLS - 48) {
                        lookAtAllBlocks();
                    }
                }
            }
            return wrong;
        }
    }

    static final TreeMap<String, Integer> tally = new TreeMap<>();

    public static void main(String[] args) {
        int runs = args.length > 0 ? Integer.parseInt(args[0]) : 1500;
        int deep = args.length > 1 ? Integer.parseInt(args[1]) : 0;
        int wrong = 0;
        for (int run = 0; run < runs && wrong < 20; run++) {
            wrong += new Run(run).play(deep);
        }
        if (args.length > 0) {
            System.out.println(tally);
        }
        System.out.println(wrong == 0 ? "all " + runs + " runs are as the model's" : wrong + " answers are not as due");
        if (wrong != 0) {
            System.exit(1);
        }
    }
}
