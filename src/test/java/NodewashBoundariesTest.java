import java.util.ArrayList;
import java.util.List;
import java.util.function.Consumer;
import java.util.function.Supplier;

/** The document sentence by sentence: for each that names a boundary, what is due just before it and just behind it. */
public final class NodewashBoundariesTest {
    private static final String INDEX = "IndexOutOfBoundsException";
    private static final String ARGUMENT = "IllegalArgumentException";
    private static final String STATE = "IllegalStateException";
    private static final int LEAST = Integer.MIN_VALUE;
    private static final int MOST = Integer.MAX_VALUE;
    private static int wrong = 0;
    private static String sentence = "";

    /** A call that may throw. */
    private interface Call {
        long answer();
    }

    private static String outcome(Call call) {
        try {
            return Long.toString(call.answer());
        } catch (RuntimeException e) {
            return e.getClass().getSimpleName();
        }
    }

    private static void tell(String what, String got, String want) {
        if (!got.equals(want)) {
            wrong++;
            System.out.println(sentence + ": " + what + " answered " + got + ", due is " + want);
        }
    }

    private static void due(String what, long want, Call call) {
        tell(what, outcome(call), Long.toString(want));
    }

    private static void refused(String what, String exception, Call call) {
        tell(what, outcome(call), exception);
    }

    private static long yes(boolean b) {
        return b ? 1 : 0;
    }

    // ---- objects to begin with

    /** The directory 2 (name 1), the file 3 (name 2, with five bytes), the file 4 in 2 (name 1); all in block 0. */
    private static Nodewash small() {
        Nodewash x = new Nodewash();
        x.makeDirectory(1, 1);
        x.create(1, 2);
        x.create(2, 1);
        x.write(3, 0, 0x0504030201L, 5);
        return x;
    }

    private static Nodewash dark() {
        Nodewash x = small();
        x.cut(0);
        x.truncate(3, 1);
        return x;
    }

    /**
     * The file 2 (name 1), the directory 3 (name 2), so many blocks free, and one current: in this the units that are
     * written and the nodes are so many together. A node of n units goes into it if that is 38 less n at most.
     */
    private static Nodewash packed(int free, int load) {
        Nodewash x = new Nodewash();
        x.create(1, 1);
        x.makeDirectory(1, 2);
        x.write(2, 0, -1L, 8);
        x.write(2, 8, -1L, 8);
        for (int i = 0; i < 3 * (6 - free); i++) {
            x.write(2, 0, i, 8);
        }
        int left = load - 1;
        while (left > 0) {
            int step = Math.min(left, 11);
            step -= left - step == 1 || left - step == 2 ? 3 : 0;
            if (step == 3) {
                x.truncate(2, 16);
            } else {
                x.write(2, 0, left, step - 3);
            }
            left -= step;
        }
        return x;
    }

    /** So many directories in the root, nine in each block. */
    private static Nodewash directories(int count) {
        Nodewash x = new Nodewash();
        for (int name = 1; name <= count; name++) {
            x.makeDirectory(1, name);
        }
        return x;
    }

    /** The file 2, written over so often that so many blocks are closed, all of them very dirty. */
    private static Nodewash worn(int closed) {
        Nodewash x = new Nodewash();
        x.create(1, 1);
        wear(x, closed);
        return x;
    }

    /** Writes over the file 2 until the first node stands in this block. */
    private static void wear(Nodewash x, int block) {
        for (int i = 0; i < 40 && x.nodes(block) == 0; i++) {
            x.write(2, 0, i, 8);
        }
    }

    // ---- what an object tells

    private static void lookAtBlocks(Nodewash x, StringBuilder text) {
        for (int b = 0; b < 8; b++) {
            int block = b;
            text.append("\nblock ").append(b).append(": ").append(outcome(() -> x.state(block)))
                    .append(' ').append(outcome(() -> x.dead(block))).append(' ')
                    .append(outcome(() -> x.toCopy(block))).append(' ').append(x.written(b)).append(' ')
                    .append(x.erased(b)).append(':');
            for (int place = 0; place < x.nodes(b); place++) {
                text.append(' ').append(x.node(b, place));
            }
        }
    }

    private static void lookAtTree(Nodewash x, int directory, StringBuilder text) {
        for (int place = 0; place < x.names(directory); place++) {
            int name = x.nameAt(directory, place);
            int number = x.lookUp(directory, name);
            text.append("\n").append(directory).append('/').append(name).append(": ").append(number).append(' ')
                    .append(x.links(number));
            if (x.isDirectory(number)) {
                lookAtTree(x, number, text);
            } else {
                for (int at = 0; at < x.length(number); at++) {
                    text.append(' ').append(x.byteAt(number, at));
                }
            }
        }
    }

    /** All that is on the flash, and all that is there. */
    private static String look(Nodewash x) {
        StringBuilder text = new StringBuilder();
        int left = x.cut(Nodewash.NONE);
        text.append("cut ").append(left).append(", dark ").append(x.isDark());
        lookAtBlocks(x, text);
        if (!x.isDark()) {
            lookAtTree(x, 1, text);
        }
        // What is written next tells the current block and the next numbers and versions.
        text.append("\n").append(outcome(() -> x.makeDirectory(1, 97))).append(' ')
                .append(outcome(() -> x.truncate(2, 1))).append(' ').append(outcome(() -> x.truncate(3, 1)));
        for (int b = 0; b < 8; b++) {
            for (int place = 0; place < x.nodes(b); place++) {
                text.append(' ').append(x.node(b, place));
            }
        }
        return text.toString();
    }

    private static String tree(Nodewash x) {
        StringBuilder text = new StringBuilder();
        lookAtTree(x, 1, text);
        return text.toString();
    }

    private static String row(Nodewash x, int block) {
        StringBuilder text = new StringBuilder();
        for (int place = 0; place < x.nodes(block); place++) {
            text.append(place == 0 ? "" : " ").append(x.node(block, place));
        }
        return text.toString();
    }

    private static String states(Nodewash x) {
        StringBuilder text = new StringBuilder();
        for (int b = 0; b < 8; b++) {
            text.append(x.state(b));
        }
        return text.toString();
    }

    // ---- The flash

    private static void blocksAndUnits() {
        sentence = "There are 8 blocks, 0 to 7, of 40 units each";
        List<Consumer<Integer>> asked = new ArrayList<>();
        Nodewash x = small();
        asked.add(b -> x.state(b));
        asked.add(b -> x.dead(b));
        asked.add(b -> x.toCopy(b));
        asked.add(b -> x.written(b));
        asked.add(b -> x.nodes(b));
        asked.add(b -> x.erased(b));
        asked.add(b -> x.node(b, 0));
        for (int i = 0; i < asked.size(); i++) {
            Consumer<Integer> call = asked.get(i);
            for (int block : new int[] {-1, 8, LEAST, MOST}) {
                refused("way " + i + " of block " + block, INDEX, () -> answered(call, block));
            }
            due("way " + i + " of block 0", 1, () -> answered(call, 0));
            tell("way " + i + " of block 7", outcome(() -> answered(call, 7)), i == 6 ? INDEX : "1");
        }
        Nodewash y = packed(1, 39);
        int nodes = y.nodes(6);
        due("a block to its last unit, but for the SUMMARY", 40 - (1 + nodes), () -> y.written(6));
        refused("no room behind it", STATE, () -> y.truncate(2, 0));
        Nodewash z = packed(2, 39);
        z.truncate(2, 0);
        due("with the SUMMARY it has 40 units", 40, () -> z.written(5));
        due("the SUMMARY takes one unit and one for each node", 3 + 10 * (1 + nodes), () -> z.node(5, nodes));
    }

    private static long answered(Consumer<Integer> call, int block) {
        call.accept(block);
        return 1;
    }

    private static void nodesOnTheFlash() {
        sentence = "A DATA node takes 2 units and one for each byte; a NAME node takes 3 units";
        Nodewash x = new Nodewash();
        x.create(1, 99);
        for (int n = 1; n <= 8; n++) {
            x.write(2, 64 - n, -1L, n);
        }
        tell("block 0", row(x, 0), "1002021 1001032 2002031 3002041 4002051 5002061 6002071 83");
        tell("block 1", row(x, 1), "7002081 8002091 9002101");
        due("written(0): the marker, the nodes, the SUMMARY", 1 + 5 + 25 + 8, () -> x.written(0));
        sentence = "An erased block has its marker alone";
        Nodewash y = worn(2);
        due("collect(0)", 0, () -> y.collect(0));
        due("written(0)", 1, () -> y.written(0));
        due("nodes(0)", 0, () -> y.nodes(0));
        refused("node(0, 0)", INDEX, () -> y.node(0, 0));
    }

    private static void wholeOrTorn() {
        sentence = "A NODE is whole when all of its units are written; otherwise it is torn";
        for (int units = 0; units <= 3; units++) {
            Nodewash x = small();
            x.cut(units);
            due("unlink with power for " + units, units == 3 ? 4 : Nodewash.DARK, () -> x.unlink(2, 1));
            due("nodes(0) after " + units, units == 0 ? 6 : 7, () -> x.nodes(0));
            if (units > 0) {
                long want = units == 3 ? 2002032 : 10 * units + Nodewash.TORN;
                due("the node after " + units, want, () -> x.node(0, 6));
            }
            x.mount(false);
            due("lookUp(2, 1) after " + units, units == 3 ? Nodewash.NONE : 4, () -> x.lookUp(2, 1));
            tell("state(0) after " + units, "" + (x.state(0) == Nodewash.CURRENT), "" + (units % 3 == 0));
        }
        sentence = "A node with all of its units is whole, even if the power goes behind its last unit";
        Nodewash y = small();
        y.cut(3);
        due("rename", Nodewash.DARK, () -> y.rename(1, 2, 1, 9));
        due("node(0, 6)", 3001032, () -> y.node(0, 6));
        y.mount(true);
        due("lookUp(1, 9)", 3, () -> y.lookUp(1, 9));
        due("lookUp(1, 2)", 3, () -> y.lookUp(1, 2));
    }

    private static void theRoot() {
        sentence = "The number 1 is a directory, the root, and is there";
        Nodewash x = new Nodewash();
        x.mount(true);
        due("isDirectory(1)", 1, () -> yes(x.isDirectory(1)));
        due("names(1)", 0, () -> x.names(1));
        due("links(1)", 0, () -> x.links(1));
        refused("length(1)", INDEX, () -> x.length(1));
        refused("link(1, 1, 1)", INDEX, () -> x.link(1, 1, 1));
        for (int number : new int[] {0, -1, 2, LEAST, MOST}) {
            refused("isDirectory(" + number + ")", INDEX, () -> yes(x.isDirectory(number)));
            refused("links(" + number + ")", INDEX, () -> x.links(number));
            refused("names(" + number + ")", INDEX, () -> x.names(number));
            refused("nameAt(" + number + ", 0)", INDEX, () -> x.nameAt(number, 0));
            refused("length(" + number + ")", INDEX, () -> x.length(number));
            refused("byteAt(" + number + ", 0)", INDEX, () -> x.byteAt(number, 0));
            refused("byteByNodes(" + number + ", 0)", INDEX, () -> x.byteByNodes(number, 0));
            refused("lookUp(" + number + ", 1)", INDEX, () -> x.lookUp(number, 1));
            refused("create(" + number + ", 1)", INDEX, () -> x.create(number, 1));
            refused("makeDirectory(" + number + ", 1)", INDEX, () -> x.makeDirectory(number, 1));
            refused("link(" + number + ", 1, 1)", INDEX, () -> x.link(number, 1, 1));
            refused("link(1, 1, " + number + ")", INDEX, () -> x.link(1, 1, number));
            refused("unlink(" + number + ", 1)", INDEX, () -> x.unlink(number, 1));
            refused("rename(" + number + ", 1, 1, 1)", INDEX, () -> x.rename(number, 1, 1, 1));
            refused("rename(1, 1, " + number + ", 1)", INDEX, () -> x.rename(1, 1, number, 1));
            refused("write(" + number + ", 0, 0, 1)", INDEX, () -> x.write(number, 0, 0, 1));
            refused("truncate(" + number + ", 0)", INDEX, () -> x.truncate(number, 0));
        }
    }

    private static void namesCount() {
        sentence = "Each name counts by its NAME node with the greatest version";
        Nodewash x = small();
        x.rename(1, 2, 2, 9);
        x.link(1, 2, 4);
        x.mount(false);
        due("lookUp(1, 2): the third node with this name", 4, () -> x.lookUp(1, 2));
        due("lookUp(2, 9)", 3, () -> x.lookUp(2, 9));
        due("links(4)", 2, () -> x.links(4));
        x.unlink(1, 2);
        x.mount(true);
        due("a greatest one without a target", Nodewash.NONE, () -> x.lookUp(1, 2));
        due("names(1)", 1, () -> x.names(1));
        sentence = "If that has a target, the target is there";
        Nodewash y = small();
        y.unlink(2, 1);
        y.unlink(1, 1);
        y.mount(false);
        refused("a directory whose name is gone", INDEX, () -> y.names(2));
        refused("a file that only this directory had", INDEX, () -> y.length(4));
        sentence = "The directory that a node is for is there, too";
        Nodewash z = new Nodewash();
        z.makeDirectory(1, 1);
        z.create(1, 2);
        z.link(2, 1, 3);
        z.rename(1, 2, 2, 7);
        due("links(3)", 2, () -> z.links(3));
        z.mount(true);
        due("links(3) in the directory 2", 2, () -> z.links(3));
        due("nameAt(2, 1)", 7, () -> z.nameAt(2, 1));
    }

    private static void contentIsLaid() {
        sentence = "Its length becomes that of the node, so that bytes beyond it are gone, and new ones are 0";
        Nodewash x = new Nodewash();
        x.create(1, 1);
        x.write(2, 0, -1L, 8);
        x.truncate(2, 1);
        x.truncate(2, 64);
        x.write(2, 2, 0x7FL, 1);
        for (int round = 0; round < 2; round++) {
            int[] want = {255, 0, 127, 0, 0, 0, 0, 0, 0};
            for (int i = 0; i < want.length; i++) {
                int place = i;
                due("byteAt(2, " + i + ")", want[i], () -> x.byteAt(2, place));
                due("byteByNodes(2, " + i + ")", want[i], () -> x.byteByNodes(2, place));
            }
            due("byteAt(2, 63)", 0, () -> x.byteAt(2, 63));
            due("byteByNodes(2, 63)", 0, () -> x.byteByNodes(2, 63));
            refused("byteAt(2, 64)", INDEX, () -> x.byteAt(2, 64));
            refused("byteByNodes(2, 64)", INDEX, () -> x.byteByNodes(2, 64));
            x.mount(round == 0);
        }
        sentence = "New bytes are 0, even if no node is left that says so";
        Nodewash z = new Nodewash();
        z.create(1, 1);
        z.truncate(2, 9);
        for (int i = 0; i < 3; i++) {
            z.create(1, 2 + i);
        }
        z.link(1, 9, 2);
        z.makeDirectory(1, 10);
        due("its first node is not copied", z.nodes(0) - 2, () -> z.toCopy(0));
        due("collect(0)", 0, () -> z.collect(0));
        due("byteByNodes(2, 8)", 0, () -> z.byteByNodes(2, 8));
        due("byteByNodes(2, 0)", 0, () -> z.byteByNodes(2, 0));
        refused("byteByNodes(2, 9)", INDEX, () -> z.byteByNodes(2, 9));
        z.mount(true);
        due("byteAt(2, 8)", 0, () -> z.byteAt(2, 8));
        sentence = "The content of a file that is there is empty at first";
        Nodewash y = new Nodewash();
        y.create(1, 1);
        refused("byteAt(2, 0)", INDEX, () -> y.byteAt(2, 0));
        refused("byteByNodes(2, 0)", INDEX, () -> y.byteByNodes(2, 0));
        y.truncate(2, 1);
        due("byteAt(2, 0) then", 0, () -> y.byteAt(2, 0));
        due("byteByNodes(2, 0) then", 0, () -> y.byteByNodes(2, 0));
    }

    private static void copiesCountOnce() {
        sentence = "Nodes with the same kind, number and version are copies of one another, and count once";
        Nodewash x = new Nodewash();
        x.create(1, 1);
        x.link(1, 2, 2);
        x.write(2, 0, 0x55L, 8);
        for (int name = 3; name < 8; name++) {
            x.makeDirectory(1, name);
        }
        String before = tree(x);
        x.cut(3 + 3 + 10);
        due("collect(0)", Nodewash.DARK, () -> x.collect(0));
        due("two names and the bytes stand twice", 3, () -> x.nodes(1) - 1);
        x.mount(false);
        tell("the files and directories", tree(x), before);
        due("links(2)", 2, () -> x.links(2));
        due("the version of the next NAME node", 8001032, () -> nodeOf(x, () -> x.unlink(1, 3)));
    }

    /** Does a call, and tells the last node of the current block then. */
    private static long nodeOf(Nodewash x, Call call) {
        call.answer();
        for (int b = 0; b < 8; b++) {
            if (x.state(b) == Nodewash.CURRENT) {
                return x.node(b, x.nodes(b) - 1);
            }
        }
        return 0;
    }

    // ---- Writing

    private static void freeRow() {
        sentence = "Free blocks stand in a row, 0 to 7 at first. There is a current block or none, as at first";
        Nodewash x = new Nodewash();
        tell("the states at first", states(x), "00000000");
        x.create(1, 1);
        tell("the states then", states(x), "10000000");
        String[] want = {"41000000", "44100000", "44410000", "44441000", "44444100", "44444410"};
        for (int i = 0; i < want.length; i++) {
            wear(x, i + 1);
            tell("the states with " + (i + 2) + " blocks used", states(x), want[i]);
        }
    }

    private static void goesIntoTheCurrentBlock() {
        sentence = "A node goes into the current block, if that has room for its units, and for a SUMMARY of all nodes";
        for (int load = 27; load <= 39; load++) {
            if (load == 28 || load == 29) {
                Nodewash x = packed(4, load);
                x.write(2, 0, 0, 8);
                due("ten units behind " + load, load == 28 ? 0 : 1, () -> x.nodes(4));
                due("the block behind " + load, load == 28 ? 1 : 4, () -> x.state(3));
            }
            if (load == 35 || load == 36) {
                Nodewash x = packed(4, load);
                x.makeDirectory(1, 3);
                due("three units behind " + load, load == 35 ? 0 : 1, () -> x.nodes(4));
                x.truncate(2, 0);
                due("the next one", load == 35 ? 1 : 2, () -> x.nodes(4));
            }
            if (load == 36 || load == 37) {
                Nodewash x = packed(4, load);
                x.truncate(2, 0);
                due("two units behind " + load, load == 36 ? 0 : 1, () -> x.nodes(4));
            }
        }
        sentence = "Otherwise the current block is closed, a SUMMARY being written, and the first free one is current";
        Nodewash y = packed(4, 37);
        long nodes = y.nodes(3);
        long used = y.written(3);
        y.truncate(2, 0);
        due("one more node", nodes + 1, () -> y.nodes(3));
        due("its units", used + nodes + 1, () -> y.written(3));
        due("it is a SUMMARY, without a number and a version", 3 + 10 * (nodes + 1), () -> y.node(3, (int) nodes));
        due("the first free one", Nodewash.CURRENT, () -> y.state(4));
        due("the others stay free", Nodewash.FREE, () -> y.state(5));
        due("the old one is closed", 1, () -> yes(y.state(3) >= Nodewash.CLEAN));
    }

    /** With one free block a method has to do with the current one; garbage may take the free one as well. */
    private static void roomForOneNode() {
        sentence = "Room: the current block and all free blocks but one";
        for (int load = 35; load <= 36; load++) {
            String want = load == 35 ? null : STATE;
            room("makeDirectory", load, want == null ? "4" : want, x -> x.makeDirectory(1, 9));
            room("link", load, want == null ? "2" : want, x -> x.link(3, 9, 2));
            room("unlink", load, want == null ? "3" : want, x -> x.unlink(1, 2));
        }
        room("truncate", 36, "16", x -> x.truncate(2, 5));
        room("truncate", 37, STATE, x -> x.truncate(2, 5));
        for (int n = 1; n <= 8; n++) {
            int count = n;
            room("write of " + n, 36 - n, "16", x -> x.write(2, 0, 9, count));
            room("write of " + n, 37 - n, STATE, x -> x.write(2, 0, 9, count));
        }
    }

    private static void roomForTwoNodes() {
        sentence = "Room: both nodes that a method writes";
        room("create", 32, "4", x -> x.create(1, 9));
        for (int load = 33; load <= 39; load++) {
            room("create", load, STATE, x -> x.create(1, 9));
            room("rename", load, STATE, x -> x.rename(1, 1, 3, 9));
        }
        room("rename", 31, "2", x -> x.rename(1, 1, 3, 9));
        room("rename", 32, STATE, x -> x.rename(1, 1, 3, 9));
        sentence = "Room: with two free blocks, both nodes go into one of them, or one of both does";
        for (int load = 30; load <= 39; load++) {
            Nodewash x = packed(2, load);
            due("create behind " + load, 4, () -> x.create(1, 9));
            due("the nodes in the next block", load <= 32 ? 0 : load <= 36 ? 1 : 2, () -> x.nodes(6));
            Nodewash y = packed(2, load);
            due("rename behind " + load, 2, () -> y.rename(1, 1, 3, 9));
            due("its nodes in the next block", load <= 31 ? 0 : load <= 35 ? 1 : 2, () -> y.nodes(6));
            due("written(7)", 1, () -> y.written(7));
        }
    }

    /** A way to call an object. */
    private interface Way {
        long call(Nodewash x);
    }

    private static void room(String what, int load, String want, Way way) {
        Nodewash x = packed(1, load);
        tell(what + " behind " + load, outcome(() -> way.call(x)), want);
        tell("block 7 after " + what, x.state(7) + " " + x.nodes(7), "0 0");
        if (want.equals(STATE)) {
            tell("what there is after " + what + " behind " + load, look(x), look(packed(1, load)));
            // With a block more there is room for all.
            tell(what + " with two free blocks", "" + (outcome(() -> way.call(packed(2, load))).length() < 4), "true");
        }
    }

    private static void roomForGarbage() {
        sentence = "Room for garbage: all free blocks";
        Nodewash x = directories(63);
        tell("the states", states(x), "22222210");
        x.cut(10 + 27);
        due("collect(120) without power to erase", Nodewash.DARK, () -> x.collect(120));
        due("mount", 7 * (1 + 27 + 10) + 1 + 27, () -> x.mount(false));
        tell("no block is free, none is current", states(x), "22222224");
        String before = outcome(() -> x.dead(7)) + " " + x.written(7);
        refused("no room for the copies", STATE, () -> x.collect(64));
        refused("no room for the copies of a clean one", STATE, () -> x.collect(120));
        refused("no room for a NAME node", STATE, () -> x.makeDirectory(1, 70));
        tell("block 7 as before", x.dead(7) + " " + x.written(7), before);
        due("a block without copies to write", 7, () -> x.collect(0));
        tell("the states then", states(x), "22222220");
        refused("still none for a NAME node", STATE, () -> x.makeDirectory(1, 70));
        due("but for copies", 0, () -> x.collect(0));
        tell("the states at last", states(x), "02222221");
        due("names(1)", 63, () -> x.names(1));
        garbageThatJustFits();
        sentence = "Room for garbage: all copies";
        Nodewash y = directories(63);
        y.cut(10 + 6);
        y.collect(120);
        y.mount(false);
        tell("no block is free", states(y), "22222221");
        due("of nine copies seven fit", 9, () -> y.toCopy(0));
        refused("collect(120)", STATE, () -> y.collect(120));
    }

    private static void garbageThatJustFits() {
        sentence = "Room for garbage: the last unit of the current block";
        // Block 7 is current with two or three copies, none is free, and of block 1 seven or eight names are left.
        for (int gone = 1; gone <= 2; gone++) {
            for (int copies = 2; copies <= 3; copies++) {
                Nodewash x = directories(63 - gone);
                for (int i = 0; i < gone; i++) {
                    x.unlink(1, 10 + i);
                }
                x.cut(10 + 3 * copies);
                due("collect(120)", Nodewash.DARK, () -> x.collect(120));
                x.mount(false);
                due("toCopy(1)", 9 - gone, () -> x.toCopy(1));
                boolean fits = 4 * copies + 4 * (9 - gone) <= 36;
                String what = "collect(64) without " + gone + " behind " + copies;
                tell(what, outcome(() -> x.collect(64)), fits ? "1" : STATE);
                due("nodes(7)", fits ? copies + 9 - gone : copies, () -> x.nodes(7));
            }
        }
        sentence = "Room for garbage: a full block goes into the last free one as a whole";
        Nodewash y = new Nodewash();
        y.create(1, 1);
        y.create(1, 2);
        y.write(3, 0, -1L, 8);
        for (int i = 0; i < 4; i++) {
            y.truncate(3, 8);
        }
        y.write(2, 0, -1L, 8);
        y.write(2, 10, -1L, 4);
        for (int name = 3; name < 8; name++) {
            y.makeDirectory(1, name);
        }
        for (int i = 0; i < 15; i++) {
            y.write(3, 0, i, 8);
        }
        due("block 1 has 40 units", 40, () -> y.written(1));
        tell("the states", states(y), "42444410");
        due("collect(120)", 1, () -> y.collect(120));
        tell("the states then", states(y), "40444441");
        due("written(7): all but the SUMMARY", 32, () -> y.written(7));
        due("written(1)", 1, () -> y.written(1));
    }

    private static void numbersAndVersions() {
        sentence = "Numbers are given by rising from 2 on";
        Nodewash x = new Nodewash();
        due("the first", 2, () -> x.create(1, 1));
        due("the second", 3, () -> x.makeDirectory(1, 2));
        refused("none for a refused call", STATE, () -> x.create(1, 2));
        due("the third", 4, () -> x.create(3, 1));
        x.unlink(3, 1);
        due("none is given twice", 5, () -> x.create(3, 1));
        sentence = "Versions of each file, and of each directory, from 1 on";
        due("a DATA node", 2002021, () -> nodeOf(x, () -> x.truncate(2, 1)));
        due("of another file", 2005021, () -> nodeOf(x, () -> x.truncate(5, 1)));
        due("a NAME node of the root", 3001032, () -> nodeOf(x, () -> x.link(1, 9, 2)));
        due("a NAME node of the directory 3", 4003032, () -> nodeOf(x, () -> x.link(3, 9, 2)));
        due("both of a rename", 5001032, () -> nodeOf(x, () -> x.rename(1, 9, 1, 10)));
        due("in two directories", 5003032, () -> nodeOf(x, () -> x.rename(3, 9, 1, 11)));
        sentence = "Each 1 more than the greatest so far";
        Nodewash y = new Nodewash();
        y.create(1, 1);
        y.makeDirectory(1, 2);
        y.unlink(1, 2);
        wear(y, 1);
        y.collect(0);
        due("the greatest may be erased", 4001032, () -> nodeOf(y, () -> y.makeDirectory(1, 2)));
        due("and so may a number", 4, () -> y.lookUp(1, 2));
    }

    // ---- Losing power

    private static void unitsCount() {
        sentence = "The power goes when one more unit than told was to be written";
        methodUnits("create", 5, "5", x -> x.create(1, 9));
        methodUnits("makeDirectory", 3, "5", x -> x.makeDirectory(1, 9));
        methodUnits("link", 3, "2", x -> x.link(1, 9, 3));
        methodUnits("unlink", 3, "3", x -> x.unlink(1, 2));
        methodUnits("rename", 6, "3", x -> x.rename(1, 2, 2, 9));
        methodUnits("write", 10, "10", x -> x.write(3, 2, -1L, 8));
        methodUnits("truncate", 2, "5", x -> x.truncate(3, 0));
        sentence = "A SUMMARY counts, too";
        for (int units = 0; units <= 12; units++) {
            Nodewash x = packed(4, 37);
            int nodes = x.nodes(3);
            x.cut(units);
            int all = nodes + 1 + 2;
            due("truncate with " + units, units < all ? Nodewash.DARK : 16, () -> x.truncate(2, 0));
            due("nodes(4) with " + units, units <= nodes + 1 ? 0 : 1, () -> x.nodes(4));
            due("nodes(3) with " + units, units == 0 ? nodes : nodes + 1, () -> x.nodes(3));
            due("the cut with " + units, units < all ? Nodewash.NONE : units - all, () -> x.cut(Nodewash.NONE));
        }
    }

    private static void methodUnits(String what, int all, String answer, Way way) {
        for (int units = 0; units <= all + 1; units++) {
            Nodewash x = small();
            x.cut(units);
            boolean goes = units < all;
            tell(what + " with " + units, outcome(() -> way.call(x)), goes ? "-9" : answer);
            due("isDark after " + what, yes(goes), () -> yes(x.isDark()));
            due("written(0) after " + what, 21 + Math.min(units, all), () -> x.written(0));
            due("the cut after " + what, goes ? Nodewash.NONE : units - all, () -> x.cut(Nodewash.NONE));
            Nodewash without = small();
            if (units >= all) {
                way.call(without);
            } else if (what.equals("rename") && units >= 3) {
                without.link(2, 9, 3);
            }
            x.mount(units % 2 == 0);
            tell("what is there after a mount, " + what + " with " + units, tree(x), tree(without));
        }
    }

    private static void erasingCounts() {
        sentence = "Erasing a block counts as one unit, and the marker written then as another one";
        // Block 0 has one name that is copied: three units.
        for (int units = 0; units <= 6; units++) {
            Nodewash x = worn(2);
            long before = x.written(0);
            x.cut(units);
            due("collect(0) with " + units, units < 5 ? Nodewash.DARK : 0, () -> x.collect(0));
            due("erased(0) with " + units, units < 4 ? 0 : 1, () -> x.erased(0));
            due("written(0) with " + units, units < 4 ? before : units == 4 ? 0 : 1, () -> x.written(0));
            tell("nodes(0) with " + units, "" + (x.nodes(0) == 0), "" + (units >= 4));
            due("the cut with " + units, units < 5 ? Nodewash.NONE : units - 5, () -> x.cut(Nodewash.NONE));
            due("nodes(2) with " + units, units == 0 ? 1 : 2, () -> x.nodes(2));
        }
        sentence = "A BROKEN block has no marker and no nodes";
        Nodewash y = worn(2);
        y.cut(4);
        y.collect(0);
        due("written(0)", 0, () -> y.written(0));
        due("nodes(0)", 0, () -> y.nodes(0));
        refused("node(0, 0)", INDEX, () -> y.node(0, 0));
        due("none of its units is read", y.written(1) + y.written(2) + 5, () -> y.mount(false));
        due("written(0) then", 1, () -> y.written(0));
        due("state(0) then", Nodewash.FREE, () -> y.state(0));
        due("erased(0) then", 2, () -> y.erased(0));
    }

    private static void whileDark() {
        sentence = "While it is dark, all others throw IllegalStateException, whatever else applies";
        Nodewash x = dark();
        for (int a : new int[] {1, 2, 3, 9, -1, LEAST, MOST}) {
            int b = a == 1 ? 9 : a;
            refused("create", STATE, () -> x.create(a, b));
            refused("makeDirectory", STATE, () -> x.makeDirectory(a, b));
            refused("link", STATE, () -> x.link(a, b, 3));
            refused("unlink", STATE, () -> x.unlink(a, b));
            refused("rename", STATE, () -> x.rename(a, 2, 1, b));
            refused("write", STATE, () -> x.write(a, b, 0, 1));
            refused("truncate", STATE, () -> x.truncate(a, b));
            refused("collect", STATE, () -> x.collect(a));
            refused("lookUp", STATE, () -> x.lookUp(a, b));
            refused("names", STATE, () -> x.names(a));
            refused("nameAt", STATE, () -> x.nameAt(a, b));
            refused("isDirectory", STATE, () -> yes(x.isDirectory(a)));
            refused("links", STATE, () -> x.links(a));
            refused("length", STATE, () -> x.length(a));
            refused("byteAt", STATE, () -> x.byteAt(a, b));
            refused("byteByNodes", STATE, () -> x.byteByNodes(a, b));
            refused("state", STATE, () -> x.state(a));
            refused("dead", STATE, () -> x.dead(a));
            refused("toCopy", STATE, () -> x.toCopy(a));
        }
        sentence = "Only methods of which that is told can be called";
        due("isDark", 1, () -> yes(x.isDark()));
        due("written", 21, () -> x.written(0));
        due("nodes", 6, () -> x.nodes(0));
        due("node", 2003071, () -> x.node(0, 5));
        due("erased", 0, () -> x.erased(0));
        due("cut", Nodewash.NONE, () -> x.cut(2));
        refused("written(8)", INDEX, () -> x.written(8));
        refused("nodes(-1)", INDEX, () -> x.nodes(-1));
        refused("node(0, 6)", INDEX, () -> x.node(0, 6));
        refused("erased(8)", INDEX, () -> x.erased(8));
        refused("cut(-2)", ARGUMENT, () -> x.cut(-2));
        due("mount", 21 + 7, () -> x.mount(true));
        due("the cut stays", 2, () -> x.cut(Nodewash.NONE));
    }

    // ---- to mount

    private static void mountFindsFree() {
        sentence = "A block is free, if it has its marker alone. The free blocks stand in a row by rising numbers";
        Nodewash x = worn(3);
        due("collect(0)", 0, () -> x.collect(0));
        due("collect(0) again", 1, () -> x.collect(0));
        Nodewash y = worn(3);
        y.collect(0);
        y.collect(0);
        y.mount(true);
        x.truncate(2, 64);
        wearOn(x);
        wearOn(y);
        tell("without a mount block 4 is next", states(x), "00441000");
        tell("with a mount block 0 is", states(y), "10440000");
        sentence = "A block that was taken, but of which nothing was written, is free again";
        Nodewash z = packed(4, 37);
        z.cut(z.nodes(3) + 1);
        due("truncate", Nodewash.DARK, () -> z.truncate(2, 3));
        z.mount(true);
        due("state(4)", Nodewash.FREE, () -> z.state(4));
        due("block 3 is closed", 1, () -> yes(z.state(3) >= Nodewash.CLEAN));
        z.truncate(2, 3);
        due("state(4) then", Nodewash.CURRENT, () -> z.state(4));
    }

    /** Writes until another block is the current one. */
    private static void wearOn(Nodewash x) {
        String before = states(x);
        for (int i = 0; i < 5 && before.equals(states(x)); i++) {
            x.write(2, 0, i, 8);
        }
    }

    private static void mountErasesBroken() {
        sentence = "Then the BROKEN ones are erased, and come behind them";
        Nodewash x = worn(3);
        x.cut(4);
        due("collect(0)", Nodewash.DARK, () -> x.collect(0));
        x.mount(true);
        due("erased(0)", 2, () -> x.erased(0));
        StringBuilder row = new StringBuilder();
        for (int i = 0; i < 4; i++) {
            wearOn(x);
            row.append(states(x).indexOf('1'));
        }
        tell("the row", row.toString(), "4567");
        x.collect(0);
        wearOn(x);
        due("the BROKEN one comes last", Nodewash.CURRENT, () -> x.state(0));
        sentence = "A BROKEN block is not closed";
        Nodewash z = worn(1);
        z.cut(4);
        due("collect(0)", Nodewash.DARK, () -> z.collect(0));
        z.mount(false);
        tell("the states", states(z), "01000000");
        refused("no block is closed", STATE, () -> z.collect(0));
        sentence = "Erasing a BROKEN block takes two units of the cut";
        for (int units = 0; units <= 3; units++) {
            Nodewash y = worn(2);
            y.cut(4);
            y.collect(0);
            y.cut(units);
            long read = y.written(1) + y.written(2) + 5;
            due("mount with " + units, units < 2 ? Nodewash.DARK : read, () -> y.mount(false));
            due("isDark with " + units, yes(units < 2), () -> yes(y.isDark()));
            due("erased(0) with " + units, units == 0 ? 1 : 2, () -> y.erased(0));
            due("written(0) with " + units, units < 2 ? 0 : 1, () -> y.written(0));
            due("the cut with " + units, units < 2 ? Nodewash.NONE : units - 2, () -> y.cut(Nodewash.NONE));
        }
    }

    private static void mountFindsCurrent() {
        sentence = "Without a SUMMARY, whole or torn, and without a torn node, with room for a node of 2 units";
        for (int load = 35; load <= 39; load++) {
            Nodewash x = packed(4, load);
            boolean goesOn = load <= 36;
            x.mount(false);
            due("state behind " + load, yes(goesOn), () -> yes(x.state(3) == Nodewash.CURRENT));
            due("no SUMMARY is written", 1, () -> yes(x.node(3, x.nodes(3) - 1) % 10 == Nodewash.DATA));
        }
        for (int units = 0; units < 3; units++) {
            Nodewash x = packed(4, 30);
            int nodes = x.nodes(3);
            x.cut(units);
            due("write with " + units, Nodewash.DARK, () -> x.write(2, 0, 0, 8));
            due("nodes(3) with " + units, units == 0 ? nodes : nodes + 1, () -> x.nodes(3));
            x.mount(true);
            due("a torn SUMMARY closes the block", yes(units == 0), () -> yes(x.state(3) == Nodewash.CURRENT));
        }
        for (int units = 0; units < 3; units++) {
            Nodewash x = small();
            x.cut(units);
            x.unlink(1, 2);
            x.mount(false);
            due("so does a torn node", yes(units == 0), () -> yes(x.state(0) == Nodewash.CURRENT));
        }
        sentence = "A block with one unit of a torn node is closed, as it has not its marker alone";
        Nodewash t = new Nodewash();
        t.cut(1);
        due("makeDirectory", Nodewash.DARK, () -> t.makeDirectory(1, 1));
        due("written(0)", 2, () -> t.written(0));
        due("mount", 2 + 7, () -> t.mount(true));
        tell("the states", states(t), "40000000");
        due("collect(127)", 0, () -> t.collect(127));
        tell("the states then", states(t), "00000000");
        sentence = "Of the blocks with nodes";
        Nodewash y = new Nodewash();
        y.mount(true);
        tell("none has nodes", states(y), "00000000");
        y.create(1, 1);
        tell("the first one is taken then", states(y), "10000000");
    }

    private static void mountCloses() {
        sentence = "All others with nodes are closed, by rising numbers";
        Nodewash[] both = {worn(3), worn(3)};
        for (Nodewash x : both) {
            for (int i = 0; i < 3; i++) {
                x.collect(0);
            }
            for (int block : new int[] {4, 5, 6, 7, 0, 1}) {
                wear(x, block);
            }
            tell("the states", states(x), "41044444");
        }
        due("without a mount the one that was closed first", 3, () -> both[0].collect(0));
        both[1].mount(true);
        due("with a mount the one with the lowest number", 0, () -> both[1].collect(0));
        due("then the one behind it", 3, () -> both[1].collect(0));
        sentence = "A block may be closed without a SUMMARY";
        Nodewash y = small();
        y.cut(1);
        y.truncate(3, 0);
        y.mount(true);
        due("state(0)", Nodewash.DIRTY, () -> y.state(0));
        due("by summaries all of it is read", 22 + 7, () -> y.mount(true));
        due("collect(0)", 0, () -> y.collect(0));
        due("state(0) then", Nodewash.FREE, () -> y.state(0));
    }

    private static void mountReads() {
        sentence = "Of each block those that are written; of one of which only the SUMMARY is read, its units, and 1";
        due("a new object", 8, () -> new Nodewash().mount(true));
        Nodewash x = directories(10);
        due("by scanning", 38 + 4 + 6, () -> x.mount(false));
        due("by summaries", 11 + 4 + 6, () -> x.mount(true));
        for (int units = 1; units <= 10; units++) {
            Nodewash y = directories(9);
            y.cut(units);
            due("no power for more than " + units, Nodewash.DARK, () -> y.makeDirectory(1, 10));
            int read = units;
            due("by scanning with " + units, 28 + units + 7, () -> y.mount(false));
            due("a whole SUMMARY alone is read", units == 10 ? 11 + 7 : 28 + read + 7, () -> y.mount(true));
        }
        sentence = "Mounts, whether it is dark or not";
        Nodewash z = small();
        String before = tree(z) + z.dead(0) + z.toCopy(0);
        z.mount(true);
        tell("what is there", tree(z) + z.dead(0) + z.toCopy(0), before);
    }

    private static void mountGoesOn() {
        sentence = "Numbers and versions go on behind the greatest ones of all whole nodes";
        Nodewash[] both = {new Nodewash(), new Nodewash()};
        for (int i = 0; i < 2; i++) {
            Nodewash x = both[i];
            x.create(1, 1);
            x.makeDirectory(1, 2);
            x.unlink(1, 2);
            wear(x, 1);
            due("the name of the directory, and what hides it, are passed over", 1, () -> x.toCopy(0));
            due("collect(0)", 0, () -> x.collect(0));
            if (i == 1) {
                x.mount(false);
            }
        }
        due("without a mount the next number", 4, () -> both[0].makeDirectory(1, 2));
        due("with a mount", 3, () -> both[1].makeDirectory(1, 2));
        due("the version of its NAME node", 2001032, () -> both[1].node(1, both[1].nodes(1) - 1));
        sentence = "Of all whole nodes, in whichever block they stand";
        Nodewash late = directories(56);
        due("in block 6", 58, () -> late.makeDirectory(1, 99));
        late.unlink(1, 99);
        late.mount(true);
        due("the number behind it", 59, () -> late.makeDirectory(1, 99));
        Nodewash often = new Nodewash();
        often.create(1, 1);
        for (int length = 1; length <= 60; length++) {
            often.truncate(2, length);
        }
        often.mount(false);
        due("the length by the last of 61 nodes", 60, () -> often.length(2));
        due("the version behind it", 62002021, () -> nodeOf(often, () -> often.truncate(2, 0)));
        sentence = "Numbers behind those of files, directories and targets";
        Nodewash y = new Nodewash();
        y.create(1, 1);
        y.cut(2);
        due("a file without a name", Nodewash.DARK, () -> y.create(1, 2));
        y.mount(true);
        due("it is a number of a whole node", 4, () -> y.makeDirectory(1, 2));
        y.unlink(1, 2);
        y.mount(false);
        due("the number of a directory that is gone", 5, () -> y.makeDirectory(1, 2));
        y.cut(1);
        due("a torn one", Nodewash.DARK, () -> y.create(5, 1));
        y.mount(false);
        due("is none", 6, () -> y.create(5, 1));
    }

    // ---- Garbage

    private static void liveData() {
        sentence = "A DATA node is live, if its file is there, and some byte of the file is one that it laid";
        Nodewash x = new Nodewash();
        x.create(1, 1);
        due("the one with the greatest version lives without bytes", 0, () -> x.dead(0));
        x.write(2, 0, 0L, 8);
        due("it is dead then", 2, () -> x.dead(0));
        x.write(2, 0, 0L, 7);
        due("one byte of eight is left", 2, () -> x.dead(0));
        x.truncate(2, 7);
        due("it is cut off", 2 + 10, () -> x.dead(0));
        x.truncate(2, 8);
        due("a longer file does not bring it back", 2 + 10 + 2, () -> x.dead(0));
        x.truncate(2, 0);
        due("nothing is left but the one with the greatest version", 2 + 10 + 2 + 2 + 9, () -> x.dead(0));
        sentence = "The same bytes laid anew are those of the newer node";
        Nodewash y = new Nodewash();
        y.create(1, 1);
        y.write(2, 3, 7L, 1);
        y.write(2, 3, 7L, 1);
        due("dead(0)", 2 + 3, () -> y.dead(0));
        y.write(2, 2, 7L, 1);
        due("a byte beside it", 2 + 3, () -> y.dead(0));
        y.write(2, 63, 7L, 1);
        y.truncate(2, 63);
        due("the last byte cut off", 2 + 3 + 3, () -> y.dead(0));
        sentence = "If its file is there";
        Nodewash z = new Nodewash();
        z.create(1, 1);
        z.link(1, 2, 2);
        z.write(2, 0, 1L, 1);
        z.unlink(1, 1);
        due("it has one more name", 2 + 3 + 3, () -> z.dead(0));
        z.unlink(1, 2);
        due("it has none", 2 + 3 + 3 + 3 + 3 + 3, () -> z.dead(0));
    }

    private static void liveNames() {
        sentence = "A NAME node is live, if its directory is there, it is the one that counts, and has a target";
        Nodewash x = new Nodewash();
        x.makeDirectory(1, 1);
        due("live", 0, () -> x.dead(0));
        x.rename(1, 1, 1, 2);
        due("the old one, and the one without a target", 6, () -> x.dead(0));
        x.makeDirectory(1, 1);
        due("a newer one with this name", 6, () -> x.dead(0));
        x.create(2, 1);
        x.unlink(2, 1);
        due("in a directory that is there", 6 + 3 + 3 + 2, () -> x.dead(0));
        x.unlink(1, 2);
        due("in one that is not", 6 + 3 + 3 + 2 + 3 + 3, () -> x.dead(0));
    }

    private static void deadNodes() {
        sentence = "A SUMMARY is neither live nor dead; all torn ones are dead";
        Nodewash y = directories(9);
        y.cut(9);
        y.makeDirectory(1, 10);
        y.mount(false);
        due("a torn SUMMARY", 9, () -> y.dead(0));
        due("is no node to copy", 9, () -> y.toCopy(0));
        Nodewash z = directories(10);
        due("a whole SUMMARY", 0, () -> z.dead(0));
        due("is none either", 9, () -> z.toCopy(0));
        due("state(0)", Nodewash.CLEAN, () -> z.state(0));
        Nodewash t = small();
        t.cut(2);
        t.link(2, 2, 3);
        t.mount(true);
        due("a torn NAME node", 2 + 2, () -> t.dead(0));
        due("is no node to copy, either", 5, () -> t.toCopy(0));
    }

    /** Copies in a lower block than theirs make the others dead, copies in a higher one are dead themselves. */
    private static void firstCopies() {
        sentence = "Of several copies only the first one, by blocks, is live";
        Nodewash x = directories(12);
        x.cut(9);
        due("collect(120) with three copies", Nodewash.DARK, () -> x.collect(120));
        x.mount(false);
        due("dead(0)", 0, () -> x.dead(0));
        due("dead(1)", 9, () -> x.dead(1));
        due("toCopy(1)", 3, () -> x.toCopy(1));
        due("toCopy(0)", 9, () -> x.toCopy(0));
        Nodewash y = worn(3);
        for (int i = 0; i < 3; i++) {
            y.collect(0);
        }
        for (int block : new int[] {4, 5, 6, 7}) {
            wear(y, block);
        }
        due("the name is in block 3", 1, () -> y.toCopy(3));
        wear(y, 0);
        y.cut(3);
        due("its copy is in block 0", Nodewash.DARK, () -> y.collect(0));
        y.mount(false);
        due("the copy is the first one", 0, () -> y.toCopy(3));
        due("toCopy(0)", 2, () -> y.toCopy(0));
        due("the one in block 3 is dead", y.written(3) - 1 - (y.nodes(3)), () -> y.dead(3));
    }

    private static void dirt() {
        sentence = "VERY_DIRTY, if what is dead takes half of the units of its nodes or more, SUMMARY nodes aside";
        // Block 0: 27 units of names; each name that is taken away makes 3 of them dead.
        for (int gone = 0; gone <= 9; gone++) {
            Nodewash x = directories(10);
            for (int name = 1; name <= gone; name++) {
                x.unlink(1, name);
            }
            int want = gone == 0 ? Nodewash.CLEAN : gone * 6 >= 27 ? Nodewash.VERY_DIRTY : Nodewash.DIRTY;
            due("without " + gone + " names", want, () -> x.state(0));
            due("dead(0) without " + gone + " names", 3 * gone, () -> x.dead(0));
        }
        sentence = "What is dead takes exactly half of them";
        // Units: 5 of the file and its name, 10, 4, 2 + n. Dead: the first node, and the one that is written over.
        for (int n = 2; n <= 4; n++) {
            Nodewash x = new Nodewash();
            x.create(1, 1);
            x.write(2, 0, -1L, 8);
            x.write(2, 20, -1L, 2);
            x.write(2, 30, -1L, n);
            x.write(2, 0, -1L, 8);
            due("the SUMMARY with " + n, 63, () -> x.node(0, 5));
            due("dead(0) with " + n, 12, () -> x.dead(0));
            int all = 5 + 10 + 4 + 2 + n;
            int want = n == 4 ? Nodewash.DIRTY : Nodewash.VERY_DIRTY;
            due("12 of " + all, want, () -> x.state(0));
        }
        sentence = "A closed block is CLEAN, if nothing in it is dead";
        Nodewash y = directories(9);
        y.cut(1);
        y.makeDirectory(1, 10);
        y.mount(true);
        due("one torn unit", Nodewash.DIRTY, () -> y.state(0));
        due("dead(0)", 1, () -> y.dead(0));
    }

    /** A very dirty block 0, a dirty one 1, a clean one 2, as far as they are wished; then block 3. */
    private static Nodewash kinds(boolean veryDirty, boolean dirty, boolean clean) {
        Nodewash x = directories(28);
        for (int name = 1; veryDirty && name < 8; name++) {
            x.unlink(1, name);
        }
        if (dirty) {
            x.unlink(1, 10);
        }
        for (int name = 19; !clean && name < 28; name++) {
            x.unlink(1, name);
        }
        return x;
    }

    private static void draws() {
        sentence = "Of the very dirty ones if the draw is below 64, of the dirty ones if it is below 120";
        int[] draw = {0, 63, 64, 119, 120, 127};
        String[] all = {"0", "0", "1", "1", "2", "2"};
        for (int i = 0; i < draw.length; i++) {
            int d = draw[i];
            Nodewash x = kinds(true, true, true);
            tell("the states", states(x).substring(0, 3), "432");
            tell("collect(" + d + ")", outcome(() -> x.collect(d)), all[i]);
        }
        sentence = "If there are none of that kind, of the kind that comes next in this row";
        int[] three = {0, 64, 120};
        String[] noVeryDirty = {"1", "1", "0"};
        String[] noDirty = {"0", "1", "1"};
        for (int i = 0; i < 3; i++) {
            int d = three[i];
            tell("without a very dirty one, " + d, outcome(() -> kinds(false, true, true).collect(d)), noVeryDirty[i]);
            tell("without a dirty one, " + d, outcome(() -> kinds(true, false, true).collect(d)), noDirty[i]);
            tell("clean ones alone, " + d, outcome(() -> kinds(false, false, true).collect(d)), "0");
            tell("very dirty ones alone, " + d, outcome(() -> worn(3).collect(d)), "0");
            tell("a dirty one alone, " + d, outcome(() -> oneDirty().collect(d)), "0");
        }
        due("the dirty one is closed first", Nodewash.DIRTY, () -> dirtyAhead().state(0));
        due("behind the clean ones in the row come the very dirty ones", 1, () -> dirtyAhead().collect(120));
        due("not the dirty ones", 0, () -> dirtyAhead().collect(119));
        sentence = "draw: 0 to 127";
        for (int d : new int[] {-1, 128, LEAST, MOST}) {
            refused("collect(" + d + ")", ARGUMENT, () -> worn(2).collect(d));
            refused("collect(" + d + ") with no block closed", ARGUMENT, () -> new Nodewash().collect(d));
        }
        refused("no block is closed", STATE, () -> small().collect(0));
        refused("no block is there to be closed", STATE, () -> new Nodewash().collect(127));
        Nodewash last = worn(1);
        due("the only one that is closed", 0, () -> last.collect(127));
        refused("none is closed then", STATE, () -> last.collect(127));
    }

    private static Nodewash oneDirty() {
        Nodewash x = directories(10);
        x.unlink(1, 1);
        return x;
    }

    /** Block 0 is dirty, block 1 is very dirty, and no other one is closed. */
    private static Nodewash dirtyAhead() {
        Nodewash x = directories(19);
        for (int name = 10; name < 17; name++) {
            x.unlink(1, name);
        }
        x.unlink(1, 1);
        return x;
    }

    private static void looksAtNodesInOrder() {
        sentence = "The whole nodes of the block, but SUMMARY nodes, are looked at in their order";
        Nodewash x = directories(10);
        x.unlink(1, 5);
        String before = row(x, 0);
        due("collect(0)", 0, () -> x.collect(0));
        String copied = before.replace("5001032 ", "").replace(" 103", "");
        String first = copied.substring(0, 7 * 8 - 1);
        tell("the copies behind what was there", row(x, 1), "10001032 11001032 " + first + " 103");
        tell("and in the next block", row(x, 2), copied.substring(7 * 8));
        sentence = "Then the block is erased, and comes behind all free blocks";
        Nodewash y = worn(2);
        y.collect(0);
        wearOn(y);
        due("block 3 is next", Nodewash.CURRENT, () -> y.state(3));
        for (int i = 0; i < 4; i++) {
            wearOn(y);
        }
        tell("the states", states(y), "04444441");
        refused("no room is left", STATE, () -> overwrite(y));
        y.collect(0);
        wearOn(y);
        due("block 0 is the last in the row", Nodewash.CURRENT, () -> y.state(0));
        due("its first node hides all of block 7", y.written(7) - 1 - y.nodes(7), () -> y.dead(7));
    }

    private static long overwrite(Nodewash x) {
        for (int i = 0; i < 5; i++) {
            x.write(2, 0, i, 8);
        }
        return 0;
    }

    /** The bytes 4 to 7 of the node 2 of the file 2, in block 0, are hidden by its node 3, in block 1. */
    private static Nodewash hidden() {
        Nodewash x = new Nodewash();
        x.create(1, 1);
        x.create(1, 2);
        x.write(2, 0, -1L, 8);
        x.write(3, 0, -1L, 8);
        x.truncate(2, 4);
        x.truncate(2, 8);
        for (int i = 0; i < 3; i++) {
            x.write(3, 0, i, 8);
        }
        return x;
    }

    private static void passedOver() {
        sentence = "All whole nodes in other blocks would TELL the same without it as with it";
        Nodewash x = hidden();
        tell("block 0", row(x, 0), "1002021 1001032 1003021 2001032 2002101 2003101 73");
        tell("block 1", row(x, 1), "3002021 4002021 3003101 4003101 53");
        tell("block 2", row(x, 2), "5003101");
        due("the node that hides is dead", 2 + 10 + 10, () -> x.dead(1));
        due("both names, and the bytes that are partly hidden", 3, () -> x.toCopy(0));
        due("what hides, and what gives the length", 2, () -> x.toCopy(1));
        due("whatever the state: the current one", 1, () -> x.toCopy(2));
        due("whatever the state: a free one", 0, () -> x.toCopy(3));
        x.write(2, 0, 0L, 4);
        due("the bytes are dead, but stand in another block", 1, () -> x.toCopy(1));
        due("both names", 2, () -> x.toCopy(0));
        sentence = "To ask toCopy changes nothing";
        Nodewash z = hidden();
        z.cut(4);
        due("both copies, but no power to erase", Nodewash.DARK, () -> z.collect(0));
        z.mount(true);
        for (int i = 0; i < 2; i++) {
            due("what hides has a copy in block 2", 1, () -> z.toCopy(1));
            due("and one in block 1", 1, () -> z.toCopy(2));
        }
        sentence = "And those of this block that have not been looked at yet";
        Nodewash y = new Nodewash();
        y.create(1, 1);
        y.makeDirectory(1, 2);
        y.unlink(1, 2);
        due("what is hidden comes first: both are passed over", 2, () -> y.toCopy(0));
        y.write(2, 0, -1L, 7);
        y.truncate(2, 4);
        y.truncate(2, 7);
        due("the bytes are live, and what hides them is copied", 4, () -> y.toCopy(0));
        y.write(2, 0, -1L, 4);
        due("all of them stand in block 0", 8, () -> y.nodes(0));
        due("the bytes come first: both are passed over", 2, () -> y.toCopy(0));
    }

    /** In block 0 one node lays a byte, in block 1 one takes it away, and another one gives a new length. */
    private static Nodewash hiddenByte(int place, int value, int length) {
        Nodewash x = new Nodewash();
        x.create(1, 1);
        x.write(2, place, value, 1);
        for (int name = 2; name < 7; name++) {
            x.makeDirectory(1, name);
        }
        x.create(1, 7);
        x.truncate(2, place);
        x.truncate(2, length);
        return x;
    }

    private static void hiddenAtTheEdges() {
        sentence = "Would TELL the same: the first and the last byte of a file";
        for (int place : new int[] {0, 63}) {
            Nodewash x = hiddenByte(place, 1, place + 1);
            tell("block 1", row(x, 1), "3002021 4002021");
            due("dead(1)", 2, () -> x.dead(1));
            due("the byte " + place + " would be back", 2, () -> x.toCopy(1));
            due("a byte 0 would be the same", 1, () -> hiddenByte(place, 0, place + 1).toCopy(1));
            due("it is beyond the length", 1, () -> hiddenByte(place, 1, place).toCopy(1));
        }
    }

    /** What hides comes ahead of what is hidden in the same block: it is copied once more. */
    private static void hidesAhead() {
        sentence = "Those of this block that have not been looked at yet: what is hidden comes later";
        Nodewash x = hidden();
        tell("the states", states(x), "34100000");
        due("collect(0): what hides is copied", 1, () -> x.collect(0));
        due("collect(64): then what is hidden", 0, () -> x.collect(64));
        x.write(2, 0, 0L, 4);
        tell("block 2", row(x, 2), "5003101 3002021 4002021 1001032 2001032 2002101 73");
        due("dead(2)", 2 + 2 + 10, () -> x.dead(2));
        due("what hides is copied, what is hidden is passed over", 4, () -> x.toCopy(2));
        due("collect(64)", 2, () -> x.collect(64));
        tell("block 3", row(x, 3), "5002061 5003101 3002021 1001032 2001032");
        due("it hides nothing more", 4, () -> x.toCopy(3));
        x.mount(true);
        due("length(2)", 8, () -> x.length(2));
        for (int place = 0; place < 8; place++) {
            int at = place;
            due("byteAt(2, " + place + ")", 0, () -> x.byteAt(2, at));
        }
    }

    private static int blockWith(Nodewash x, long node) {
        for (int b = 0; b < 8; b++) {
            for (int place = 0; place < x.nodes(b); place++) {
                if (x.node(b, place) == node) {
                    return b;
                }
            }
        }
        return -1;
    }


    // ---- exceptions

    private static void throwsFirstNamedFirst() {
        sentence = "Of several exceptions that apply, the one that its throws clause names first is thrown";
        Supplier<Nodewash> full = () -> packed(1, 39);
        Nodewash x = full.get();
        refused("create: no directory, wrong name", INDEX, () -> x.create(9, 0));
        refused("create: a file, taken name", INDEX, () -> x.create(2, 1));
        refused("create: wrong name, no room", ARGUMENT, () -> x.create(1, 100));
        refused("create: taken name, no room", STATE, () -> x.create(1, 1));
        refused("makeDirectory: no directory, wrong name", INDEX, () -> x.makeDirectory(9, 0));
        refused("makeDirectory: wrong name, no room", ARGUMENT, () -> x.makeDirectory(1, 0));
        refused("link: no directory, wrong name", INDEX, () -> x.link(9, 0, 2));
        refused("link: no file, wrong name", INDEX, () -> x.link(1, 0, 9));
        refused("link: a directory, wrong name", INDEX, () -> x.link(1, 0, 3));
        refused("link: no file, taken name", INDEX, () -> x.link(1, 1, 9));
        refused("link: wrong name, no room", ARGUMENT, () -> x.link(1, 0, 2));
        refused("unlink: no directory, wrong name", INDEX, () -> x.unlink(2, 0));
        refused("unlink: wrong name, no room", ARGUMENT, () -> x.unlink(1, 100));
        refused("unlink: nothing has the name, no room", STATE, () -> x.unlink(1, 50));
        refused("rename: no directory, wrong names", INDEX, () -> x.rename(9, 0, 1, 0));
        refused("rename: no other directory, wrong names", INDEX, () -> x.rename(1, 0, 9, 0));
        refused("rename: a file, nothing has the name", INDEX, () -> x.rename(1, 50, 2, 1));
        refused("rename: wrong name, no room", ARGUMENT, () -> x.rename(1, 0, 1, 5));
        refused("rename: wrong new name, nothing has the old one", ARGUMENT, () -> x.rename(1, 50, 1, 0));
        refused("rename: wrong new name, into itself", ARGUMENT, () -> x.rename(1, 2, 3, 100));
        refused("write: no file, wrong offset", INDEX, () -> x.write(9, 64, 0, 1));
        refused("write: a directory, wrong n", INDEX, () -> x.write(3, 0, 0, 9));
        refused("write: wrong n, no room", ARGUMENT, () -> x.write(2, 0, 0, 9));
        refused("write: wrong offset, no room", ARGUMENT, () -> x.write(2, -1, 0, 1));
        refused("write: no room", STATE, () -> x.write(2, 0, 0, 1));
        refused("truncate: no file, wrong length", INDEX, () -> x.truncate(3, 65));
        refused("truncate: wrong length, no room", ARGUMENT, () -> x.truncate(2, 65));
        refused("truncate: no room", STATE, () -> x.truncate(2, 0));
        refused("lookUp: no directory, wrong name", INDEX, () -> x.lookUp(2, 0));
        refused("collect: wrong draw, no block closed", ARGUMENT, () -> small().collect(128));
        tell("nothing has changed", look(x), look(full.get()));
    }

    private static void throwsChangeNothing() {
        sentence = "A call that throws an exception changes nothing";
        List<Way> ways = new ArrayList<>();
        ways.add(x -> x.create(9, 1));
        ways.add(x -> x.create(1, 0));
        ways.add(x -> x.create(1, 1));
        ways.add(x -> x.makeDirectory(3, 1));
        ways.add(x -> x.makeDirectory(1, 100));
        ways.add(x -> x.makeDirectory(2, 1));
        ways.add(x -> x.link(1, 9, 2));
        ways.add(x -> x.link(1, -1, 3));
        ways.add(x -> x.link(1, 1, 3));
        ways.add(x -> x.unlink(5, 1));
        ways.add(x -> x.unlink(1, 0));
        ways.add(x -> x.unlink(1, 3));
        ways.add(x -> x.unlink(1, 1));
        ways.add(x -> x.rename(1, 2, 4, 1));
        ways.add(x -> x.rename(1, 2, 1, 100));
        ways.add(x -> x.rename(1, 3, 1, 4));
        ways.add(x -> x.rename(1, 2, 1, 2));
        ways.add(x -> x.rename(1, 2, 1, 1));
        ways.add(x -> x.rename(1, 1, 1, 2));
        ways.add(x -> x.rename(1, 1, 2, 2));
        ways.add(x -> x.write(2, 0, 1, 1));
        ways.add(x -> x.write(3, 64, 1, 1));
        ways.add(x -> x.write(3, 63, 1, 2));
        ways.add(x -> x.truncate(1, 0));
        ways.add(x -> x.truncate(3, 65));
        ways.add(x -> x.collect(128));
        ways.add(x -> x.collect(0));
        ways.add(x -> x.cut(1001));
        ways.add(x -> x.cut(-2));
        ways.add(x -> x.nameAt(1, 2));
        ways.add(x -> x.byteAt(3, 5));
        ways.add(x -> x.node(0, 6));
        Nodewash same = small();
        same.cut(50);
        String want = look(same);
        for (int i = 0; i < ways.size(); i++) {
            Nodewash x = small();
            x.cut(50);
            Way way = ways.get(i);
            due("way " + i + " is refused", 1, () -> yes(outcome(() -> way.call(x)).endsWith("Exception")));
            tell("what there is after way " + i, look(x), want);
        }
    }

    // ---- the ranges

    private static void ranges() {
        sentence = "A name is 1 to 99";
        int[] names = {1, 99, 0, 100, -1, LEAST, MOST};
        for (int i = 0; i < names.length; i++) {
            int name = names[i];
            boolean fine = i < 2;
            tell("create " + name, outcome(() -> new Nodewash().create(1, name)), fine ? "2" : ARGUMENT);
            tell("makeDirectory " + name, outcome(() -> new Nodewash().makeDirectory(1, name)), fine ? "2" : ARGUMENT);
            tell("link " + name, outcome(() -> small().link(2, name, 3)), name == 1 ? STATE : fine ? "2" : ARGUMENT);
            tell("lookUp " + name, outcome(() -> small().lookUp(2, name)), name == 1 ? "4" : fine ? "-1" : ARGUMENT);
            tell("unlink " + name, outcome(() -> small().unlink(2, name)), name == 1 ? "4" : fine ? STATE : ARGUMENT);
            tell("rename " + name, outcome(() -> small().rename(2, name, 1, 50)),
                    name == 1 ? "4" : fine ? STATE : ARGUMENT);
            tell("rename to " + name, outcome(() -> small().rename(1, 2, 2, name)), fine ? "3" : ARGUMENT);
        }
        Nodewash edge = new Nodewash();
        edge.create(1, 99);
        edge.create(1, 1);
        tell("the names by rising names", edge.nameAt(1, 0) + " " + edge.nameAt(1, 1), "1 99");
        edge.rename(1, 99, 1, 98);
        due("lookUp(1, 99)", Nodewash.NONE, () -> edge.lookUp(1, 99));
        sentence = "offset: 0 to 63; n: 1 to 8, up to 64 less the offset";
        for (int offset : new int[] {0, 1, 55, 56, 57, 62, 63}) {
            for (int n : new int[] {LEAST, -1, 0, 1, 2, 7, 8, 9, 64, MOST}) {
                boolean fine = n >= 1 && n <= 8 && n <= 64 - offset;
                Nodewash x = small();
                tell("write at " + offset + " of " + n, outcome(() -> x.write(3, offset, -1L, n)),
                        fine ? "" + Math.max(5, offset + n) : ARGUMENT);
                if (fine && offset > 5) {
                    tell("its last bytes", x.byteAt(3, offset - 1) + " " + x.byteAt(3, offset + n - 1), "0 255");
                }
            }
        }
        for (int offset : new int[] {LEAST, -8, -1, 64, 65, MOST}) {
            refused("write at " + offset, ARGUMENT, () -> small().write(3, offset, 0, 1));
            refused("write at " + offset + " of 8", ARGUMENT, () -> small().write(3, offset, 0, 8));
        }
        sentence = "length: 0 to 64";
        for (int length : new int[] {LEAST, -1, 0, 1, 63, 64, 65, MOST}) {
            boolean fine = length >= 0 && length <= 64;
            Nodewash x = small();
            tell("truncate to " + length, outcome(() -> x.truncate(3, length)), fine ? "5" : ARGUMENT);
            due("the length then", fine ? length : 5, () -> x.length(3));
            refused("no byte behind it", INDEX, () -> x.byteAt(3, fine ? length : 5));
        }
        sentence = "units: 0 to 1000; NONE for no cut";
        for (int units : new int[] {LEAST, -2, -1, 0, 1, 999, 1000, 1001, MOST}) {
            boolean fine = units >= -1 && units <= 1000;
            Nodewash x = small();
            tell("cut(" + units + ")", outcome(() -> x.cut(units)), fine ? "-1" : ARGUMENT);
            due("how many were left", fine ? units : -1, () -> x.cut(Nodewash.NONE));
        }
        sentence = "place: from 0";
        for (int place : new int[] {LEAST, -1, 2, MOST}) {
            refused("nameAt(1, " + place + ")", INDEX, () -> small().nameAt(1, place));
            refused("byteAt(4, " + place + ")", INDEX, () -> small().byteAt(4, place));
            refused("byteByNodes(4, " + place + ")", INDEX, () -> small().byteByNodes(4, place));
            refused("node(1, " + place + ")", INDEX, () -> small().node(1, place));
        }
        refused("node(0, LEAST)", INDEX, () -> small().node(0, LEAST));
        refused("node(0, MOST)", INDEX, () -> small().node(0, MOST));
        refused("nameAt of an empty directory", INDEX, () -> new Nodewash().nameAt(1, 0));
    }

    // ---- the methods

    private static void createAndMake() {
        sentence = "create: a DATA node without bytes, with the length 0, and a NAME node are written";
        Nodewash x = new Nodewash();
        x.create(1, 7);
        tell("block 0", row(x, 0), "1002021 1001032");
        due("length(2)", 0, () -> x.length(2));
        due("links(2)", 1, () -> x.links(2));
        x.mount(true);
        due("length(2) from the nodes", 0, () -> x.length(2));
        due("isDirectory(2) from the nodes", 0, () -> yes(x.isDirectory(2)));
        sentence = "create: the name is taken";
        x.makeDirectory(1, 8);
        refused("by a file", STATE, () -> x.create(1, 7));
        refused("by a directory", STATE, () -> x.create(1, 8));
        refused("makeDirectory: by a file", STATE, () -> x.makeDirectory(1, 7));
        refused("makeDirectory: by a directory", STATE, () -> x.makeDirectory(1, 8));
        refused("link: by a directory", STATE, () -> x.link(1, 8, 2));
        refused("link: by the file itself", STATE, () -> x.link(1, 7, 2));
        due("the same name elsewhere", 4, () -> x.create(3, 7));
        x.unlink(1, 7);
        due("a name that was given back", 5, () -> x.create(1, 7));
        sentence = "create: makes an empty file, also behind one that is gone";
        Nodewash z = new Nodewash();
        z.create(1, 1);
        z.write(2, 0, -1L, 8);
        z.unlink(1, 1);
        due("create(1, 1)", 3, () -> z.create(1, 1));
        due("length(3)", 0, () -> z.length(3));
        refused("byteAt(3, 0)", INDEX, () -> z.byteAt(3, 0));
        due("truncate(3, 8)", 0, () -> z.truncate(3, 8));
        tell("new bytes", z.byteAt(3, 0) + " " + z.byteAt(3, 7) + " " + z.byteByNodes(3, 0), "0 0 0");
        sentence = "makeDirectory: makes an empty directory";
        due("names(3)", 1, () -> x.names(3));
        due("makeDirectory(3, 8)", 6, () -> x.makeDirectory(3, 8));
        due("names(6)", 0, () -> x.names(6));
        due("links(6)", 1, () -> x.links(6));
        x.mount(false);
        due("isDirectory(6) from the nodes", 1, () -> yes(x.isDirectory(6)));
        due("names(6) from the nodes", 0, () -> x.names(6));
    }

    private static void linkAndUnlink() {
        sentence = "link: returns how many names the file has then";
        Nodewash x = small();
        for (int i = 0; i < 10; i++) {
            int name = 20 + i;
            due("link " + name, 2 + i, () -> x.link(1 + name % 2, name, 3));
        }
        sentence = "unlink: a directory which has names in it is refused (also if it has another name, too)";
        Nodewash y = new Nodewash();
        y.makeDirectory(1, 1);
        y.create(2, 1);
        y.cut(3);
        y.rename(1, 1, 1, 2);
        y.mount(true);
        refused("unlink(1, 1)", STATE, () -> y.unlink(1, 1));
        refused("unlink(1, 2)", STATE, () -> y.unlink(1, 2));
        y.unlink(2, 1);
        due("without names in it", 2, () -> y.unlink(1, 1));
        due("it is there by the other name", 0, () -> y.names(2));
        due("and is written into", 4, () -> y.create(2, 1));
        y.unlink(2, 1);
        due("the last name", 2, () -> y.unlink(1, 2));
        refused("it is gone", INDEX, () -> y.names(2));
        sentence = "unlink: returns the number that had this name";
        due("a file with more names", 3, () -> x.unlink(1, 22));
        due("links(3)", 10, () -> x.links(3));
        refused("once more", STATE, () -> x.unlink(1, 22));
    }

    private static void renameEdges() {
        sentence = "rename: a NAME node with the target for the new name, then one without a target for the old one";
        Nodewash x = small();
        due("rename", 4, () -> x.rename(2, 1, 2, 99));
        tell("the nodes", x.node(0, 6) + " " + x.node(0, 7), "2002032 3002032");
        due("names(2)", 1, () -> x.names(2));
        sentence = "rename: a file that had the new name loses it";
        x.link(1, 50, 4);
        due("the file 4 loses one of two", 3, () -> x.rename(1, 2, 2, 99));
        due("links(4)", 1, () -> x.links(4));
        due("lookUp(2, 99)", 3, () -> x.lookUp(2, 99));
        due("the file 3 loses its only one", 4, () -> x.rename(1, 50, 2, 99));
        refused("length(3)", INDEX, () -> x.length(3));
        // Both nodes of the file 3, its old name, the old names of the file 4, and what took one of them away.
        due("dead(0)", 2 + 7 + 3 + 3 + 3 + 3 + 3, () -> x.dead(0));
        x.mount(false);
        tell("what is there", tree(x), "\n1/1: 2 1\n2/99: 4 1");
        sentence = "rename: the new name is written first, then the old one is taken away";
        Nodewash half = small();
        half.create(1, 5);
        half.cut(3);
        due("rename onto a file", Nodewash.DARK, () -> half.rename(1, 2, 1, 5));
        half.mount(true);
        refused("that file is gone", INDEX, () -> half.length(5));
        due("lookUp(1, 5)", 3, () -> half.lookUp(1, 5));
        due("lookUp(1, 2)", 3, () -> half.lookUp(1, 2));
        due("links(3)", 2, () -> half.links(3));
        refused("both name the same number", STATE, () -> half.rename(1, 2, 1, 5));
        sentence = "rename: nothing has the old name, both name the same number";
        Nodewash y = small();
        y.link(2, 9, 3);
        refused("nothing", STATE, () -> y.rename(2, 2, 1, 7));
        refused("itself", STATE, () -> y.rename(1, 1, 1, 1));
        refused("a file by two names", STATE, () -> y.rename(1, 2, 2, 9));
        sentence = "rename: one of both is a directory";
        y.makeDirectory(1, 5);
        refused("a file onto a directory", STATE, () -> y.rename(1, 2, 1, 1));
        refused("a file onto an empty directory", STATE, () -> y.rename(1, 2, 1, 5));
        refused("a directory onto a file", STATE, () -> y.rename(1, 5, 1, 2));
        refused("a directory onto an empty one", STATE, () -> y.rename(1, 1, 1, 5));
        due("a directory to a free name", 2, () -> y.rename(1, 1, 5, 5));
        due("names(5)", 1, () -> y.names(5));
    }

    private static void renameBelowItself() {
        sentence = "rename: a directory would come into itself, or below itself";
        Nodewash x = new Nodewash();
        for (int i = 1; i <= 40; i++) {
            x.makeDirectory(i, i % 2 == 0 ? 99 : 1);
        }
        for (int low = 2; low <= 41; low++) {
            int to = low;
            refused("the directory 2 into " + low, STATE, () -> x.rename(1, 1, to, 50));
        }
        due("one below into the root", 21, () -> x.rename(20, 99, 1, 2));
        refused("it cannot go below itself", STATE, () -> x.rename(1, 2, 41, 50));
        due("but what was above it can", 2, () -> x.rename(1, 1, 41, 50));
        due("names(1)", 1, () -> x.names(1));
        x.mount(true);
        due("names(41)", 1, () -> x.names(41));
        sentence = "rename: below itself by another name";
        Nodewash y = new Nodewash();
        y.makeDirectory(1, 1);
        y.makeDirectory(1, 2);
        y.makeDirectory(2, 1);
        y.cut(3);
        y.rename(2, 1, 3, 1);
        y.mount(true);
        due("the directory 4 has two names", 2, () -> y.links(4));
        refused("the directory 2 into 4", STATE, () -> y.rename(1, 1, 4, 1));
        refused("the directory 3 into 4", STATE, () -> y.rename(1, 2, 4, 1));
        due("the directory 2 into 3", 2, () -> y.rename(1, 1, 3, 2));
        due("the directory 4 by one of its names", 4, () -> y.rename(2, 1, 1, 7));
        due("names(2)", 0, () -> y.names(2));
        due("links(4)", 2, () -> y.links(4));
    }

    private static void writeEdges() {
        sentence = "write: writes the n lowest of eight bytes, the lowest one first";
        Nodewash x = new Nodewash();
        x.create(1, 1);
        x.write(2, 0, 0x8182838485868788L, 8);
        for (int i = 0; i < 8; i++) {
            int place = i;
            due("byteAt(2, " + i + ")", 0x88 - i, () -> x.byteAt(2, place));
            due("byteByNodes(2, " + i + ")", 0x88 - i, () -> x.byteByNodes(2, place));
        }
        x.write(2, 2, 0x7171717171L, 3);
        tell("three of eight", x.byteAt(2, 1) + " " + x.byteAt(2, 2) + " " + x.byteAt(2, 4) + " " + x.byteAt(2, 5),
                "135 113 113 131");
        Nodewash y = new Nodewash();
        y.create(1, 1);
        y.write(2, 0, 0xFFFFL, 1);
        y.truncate(2, 2);
        tell("the byte behind them is not written", y.byteAt(2, 0) + " " + y.byteAt(2, 1) + " " + y.byteByNodes(2, 1),
                "255 0 0");
        sentence = "write: its length is that of the file, or that up to the last of these bytes, if this is more";
        due("within the file", 8, () -> x.write(2, 0, 0, 7));
        due("up to its end", 8, () -> x.write(2, 7, 0, 1));
        due("one byte more", 9, () -> x.write(2, 7, 0, 2));
        due("behind a gap", 12, () -> x.write(2, 11, 1, 1));
        due("length(2)", 12, () -> x.length(2));
        x.mount(false);
        due("length(2) from the nodes", 12, () -> x.length(2));
        tell("the gap", x.byteAt(2, 9) + " " + x.byteAt(2, 10) + " " + x.byteByNodes(2, 10), "0 0 0");
        sentence = "truncate: another length, or the same; returns the length before";
        due("the same", 12, () -> x.truncate(2, 12));
        due("one less", 12, () -> x.truncate(2, 11));
        due("one more", 11, () -> x.truncate(2, 12));
        due("the byte is gone", 0, () -> x.byteAt(2, 11));
        due("byteByNodes", 0, () -> x.byteByNodes(2, 11));
        refused("byteAt(2, 12)", INDEX, () -> x.byteAt(2, 12));
        due("a node for each", 11002021, () -> nodeOf(x, () -> x.truncate(2, 0)));
    }

    /** As many files and directories as there is room for, and more than a hundred numbers. */
    private static void many() {
        sentence = "What is there is bounded by the flash alone";
        Nodewash x = directories(63);
        for (int round = 0; round < 2; round++) {
            due("names(1)", 63, () -> x.names(1));
            for (int i = 0; i < 63; i++) {
                int place = i;
                due("nameAt(1, " + i + ")", i + 1, () -> x.nameAt(1, place));
                due("isDirectory(" + (i + 2) + ")", 1, () -> yes(x.isDirectory(place + 2)));
                due("lookUp(1, " + (i + 1) + ")", i + 2, () -> x.lookUp(1, place + 1));
            }
            x.mount(true);
        }
        sentence = "Numbers above a hundred";
        Nodewash y = new Nodewash();
        for (int i = 0; i < 120; i++) {
            y.makeDirectory(1, 1);
            y.unlink(1, 1);
            if (i >= 15 && i % 5 == 0) {
                y.collect(0);
            }
        }
        due("the number", 122, () -> y.create(1, 1));
        due("its node", 1122021, () -> y.node(blockWith(y, 1122021), placeOf(y, 1122021)));
    }

    private static int placeOf(Nodewash x, long node) {
        int block = blockWith(x, node);
        for (int place = 0; block >= 0 && place < x.nodes(block); place++) {
            if (x.node(block, place) == node) {
                return place;
            }
        }
        return -1;
    }

    public static void main(String[] args) {
        blocksAndUnits();
        nodesOnTheFlash();
        wholeOrTorn();
        theRoot();
        namesCount();
        contentIsLaid();
        copiesCountOnce();
        freeRow();
        goesIntoTheCurrentBlock();
        roomForOneNode();
        roomForTwoNodes();
        roomForGarbage();
        numbersAndVersions();
        unitsCount();
        erasingCounts();
        whileDark();
        mountFindsFree();
        mountErasesBroken();
        mountFindsCurrent();
        mountCloses();
        mountReads();
        mountGoesOn();
        liveData();
        liveNames();
        deadNodes();
        firstCopies();
        dirt();
        draws();
        looksAtNodesInOrder();
        passedOver();
        hiddenAtTheEdges();
        hidesAhead();
        throwsFirstNamedFirst();
        throwsChangeNothing();
        ranges();
        createAndMake();
        linkAndUnlink();
        renameEdges();
        renameBelowItself();
        writeEdges();
        many();
        System.out.println(wrong == 0 ? "all answers are as due" : wrong + " answers are not as due");
        if (wrong != 0) {
            System.exit(1);
        }
    }
}
