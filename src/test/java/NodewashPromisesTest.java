/** For each promise of the document: ordinary calls, the edges that it names, and wrong calls. */
public final class NodewashPromisesTest {
    private static final String INDEX = "IndexOutOfBoundsException";
    private static final String ARGUMENT = "IllegalArgumentException";
    private static final String STATE = "IllegalStateException";
    private static int wrong = 0;
    private static int promise = 0;

    /** A call that may throw. */
    private interface Call {
        long answer();
    }

    private static String outcome(Call call) {
        try {
            return Long.toString(call.answer());
        } catch (RuntimeException e) {
            return e.getClass().getSimpleName();
        }
    }

    private static void tell(String what, String got, String want) {
        if (!got.equals(want)) {
            wrong++;
            System.out.println("promise " + promise + ": " + what + " answered " + got + ", due is " + want);
        }
    }

    private static void due(String what, long want, Call call) {
        tell(what, outcome(call), Long.toString(want));
    }

    private static void refused(String what, String exception, Call call) {
        tell(what, outcome(call), exception);
    }

    private static long yes(boolean b) {
        return b ? 1 : 0;
    }

    /** The directory 2 (name 1), the file 3 (name 2, with five bytes), the file 4 in 2 (name 1). */
    private static Nodewash small() {
        Nodewash x = new Nodewash();
        x.makeDirectory(1, 1);
        x.create(1, 2);
        x.create(2, 1);
        x.write(3, 0, 0x0504030201L, 5);
        return x;
    }

    private static Nodewash dark() {
        Nodewash x = small();
        x.cut(0);
        x.truncate(3, 1);
        return x;
    }

    /** Only so much room that one more node of 10 units has none: six blocks closed, one current, one free. */
    private static Nodewash full() {
        Nodewash x = new Nodewash();
        x.create(1, 1);
        int calls = 0;
        while (calls < 60 && !outcome(() -> x.write(2, 0, -1L, 8)).equals(STATE)) {
            calls++;
        }
        return x;
    }

    private static void newObject() {
        promise = 1;
        Nodewash x = new Nodewash();
        for (int b = 0; b < 8; b++) {
            int block = b;
            due("state", Nodewash.FREE, () -> x.state(block));
            due("written", 1, () -> x.written(block));
            due("nodes", 0, () -> x.nodes(block));
            due("erased", 0, () -> x.erased(block));
        }
        due("isDirectory(1)", 1, () -> yes(x.isDirectory(1)));
        due("names(1)", 0, () -> x.names(1));
        due("links(1)", 0, () -> x.links(1));
        refused("links(2)", INDEX, () -> x.links(2));
        due("isDark", 0, () -> yes(x.isDark()));
        due("cut(NONE)", Nodewash.NONE, () -> x.cut(Nodewash.NONE));
        refused("collect(0)", STATE, () -> x.collect(0));
        due("mount(false)", 8, () -> x.mount(false));
    }

    private static void constants() {
        promise = 1;
        due("NONE", -1, () -> Nodewash.NONE);
        due("DARK", -9, () -> Nodewash.DARK);
        due("states", 1234, () -> Nodewash.FREE * 10000 + Nodewash.CURRENT * 1000 + Nodewash.CLEAN * 100
                + Nodewash.DIRTY * 10 + Nodewash.VERY_DIRTY);
        due("kinds", 1234, () -> Nodewash.DATA * 1000 + Nodewash.NAME * 100 + Nodewash.SUMMARY * 10 + Nodewash.TORN);
    }

    private static void create() {
        promise = 2;
        Nodewash x = new Nodewash();
        due("create(1, 1)", 2, () -> x.create(1, 1));
        due("create(1, 99)", 3, () -> x.create(1, 99));
        due("the DATA node", 1002021L, () -> x.node(0, 0));
        due("the NAME node", 1001032L, () -> x.node(0, 1));
        due("the next NAME node", 2001032L, () -> x.node(0, 3));
        due("length(2)", 0, () -> x.length(2));
        due("written(0)", 11, () -> x.written(0));
        refused("create(2, 1)", INDEX, () -> x.create(2, 1));
        refused("create(0, 0)", INDEX, () -> x.create(0, 0));
        refused("create(1, 0)", ARGUMENT, () -> x.create(1, 0));
        refused("create(1, 100)", ARGUMENT, () -> x.create(1, 100));
        refused("create(1, 1)", STATE, () -> x.create(1, 1));
        due("written(0) as before", 11, () -> x.written(0));
        due("the next number", 4, () -> x.create(1, 2));
        refused("create while dark", STATE, () -> dark().create(9, 0));
        x.cut(4);
        due("create without power", Nodewash.DARK, () -> x.create(1, 3));
        due("isDark", 1, () -> yes(x.isDark()));
        due("the torn one", 24, () -> x.node(0, 7));
        x.mount(false);
        due("the name", Nodewash.NONE, () -> x.lookUp(1, 3));
        due("the number behind that of the DATA node", 6, () -> x.create(1, 3));
    }

    private static void room() {
        promise = 2;
        Nodewash x = full();
        due("one block is free", 1, () -> countOf(x, Nodewash.FREE));
        due("the other one is current", Nodewash.CURRENT, () -> x.state(6));
        long used = x.written(6);
        refused("write without room", STATE, () -> x.write(2, 0, 0L, 8));
        refused("create without room", STATE, () -> x.create(1, 2));
        due("written(6) as before", used, () -> x.written(6));
        due("the next number as before", 0, () -> countOf(x, Nodewash.CLEAN));
        due("collect(0)", 0, () -> x.collect(0));
        due("create with room", 3, () -> x.create(1, 2));
    }

    private static long countOf(Nodewash x, int state) {
        int count = 0;
        for (int b = 0; b < 8; b++) {
            count += x.state(b) == state ? 1 : 0;
        }
        return count;
    }

    private static void makeDirectory() {
        promise = 3;
        Nodewash x = new Nodewash();
        due("makeDirectory(1, 1)", 2, () -> x.makeDirectory(1, 1));
        due("makeDirectory(2, 99)", 3, () -> x.makeDirectory(2, 99));
        due("nodes(0)", 2, () -> x.nodes(0));
        due("node(0, 1)", 1002032L, () -> x.node(0, 1));
        due("isDirectory(3)", 1, () -> yes(x.isDirectory(3)));
        due("names(3)", 0, () -> x.names(3));
        refused("makeDirectory(4, 1)", INDEX, () -> x.makeDirectory(4, 0));
        refused("makeDirectory(1, 0)", ARGUMENT, () -> x.makeDirectory(1, 0));
        refused("makeDirectory(1, 100)", ARGUMENT, () -> x.makeDirectory(1, 100));
        refused("makeDirectory(2, 99)", STATE, () -> x.makeDirectory(2, 99));
        refused("makeDirectory while dark", STATE, () -> dark().makeDirectory(1, 9));
        due("in a file", 4, () -> x.create(1, 4));
        refused("makeDirectory(4, 1)", INDEX, () -> x.makeDirectory(4, 1));
        x.cut(2);
        due("makeDirectory without power", Nodewash.DARK, () -> x.makeDirectory(1, 5));
        x.mount(true);
        due("its number is given again", 5, () -> x.makeDirectory(1, 5));
    }

    private static void link() {
        promise = 4;
        Nodewash x = small();
        due("link(2, 9, 3)", 2, () -> x.link(2, 9, 3));
        due("link(1, 9, 3)", 3, () -> x.link(1, 9, 3));
        due("lookUp(2, 9)", 3, () -> x.lookUp(2, 9));
        refused("link(3, 0, 3)", INDEX, () -> x.link(3, 0, 3));
        refused("link of a directory", INDEX, () -> x.link(1, 5, 2));
        refused("link(1, 0, 9)", INDEX, () -> x.link(1, 0, 9));
        refused("link(1, 0, 3)", ARGUMENT, () -> x.link(1, 0, 3));
        refused("link(1, 100, 3)", ARGUMENT, () -> x.link(1, 100, 3));
        refused("link(1, 9, 4)", STATE, () -> x.link(1, 9, 4));
        refused("link(1, 9, 3)", STATE, () -> x.link(1, 9, 3));
        refused("link while dark", STATE, () -> dark().link(1, 7, 9));
        due("links(3)", 3, () -> x.links(3));
        x.cut(1);
        due("link without power", Nodewash.DARK, () -> x.link(1, 20, 3));
        x.mount(false);
        due("links(3) then", 3, () -> x.links(3));
    }

    private static void unlink() {
        promise = 5;
        Nodewash x = small();
        refused("unlink of a full directory", STATE, () -> x.unlink(1, 1));
        due("unlink(2, 1)", 4, () -> x.unlink(2, 1));
        refused("its file is gone", INDEX, () -> x.length(4));
        due("unlink(1, 1)", 2, () -> x.unlink(1, 1));
        refused("the directory is gone", INDEX, () -> x.names(2));
        x.link(1, 8, 3);
        due("unlink(1, 2)", 3, () -> x.unlink(1, 2));
        due("links(3)", 1, () -> x.links(3));
        due("byteAt(3, 4)", 5, () -> x.byteAt(3, 4));
        refused("unlink(9, 0)", INDEX, () -> x.unlink(9, 0));
        refused("unlink(1, 0)", ARGUMENT, () -> x.unlink(1, 0));
        refused("unlink(1, 100)", ARGUMENT, () -> x.unlink(1, 100));
        refused("unlink(1, 2) again", STATE, () -> x.unlink(1, 2));
        refused("unlink while dark", STATE, () -> dark().unlink(1, 2));
        x.cut(2);
        due("unlink without power", Nodewash.DARK, () -> x.unlink(1, 8));
        x.mount(false);
        due("lookUp(1, 8)", 3, () -> x.lookUp(1, 8));
    }

    private static void unlinkDirectoryWithTwoNames() {
        promise = 5;
        Nodewash x = small();
        x.cut(3);
        due("rename cut in two", Nodewash.DARK, () -> x.rename(1, 1, 1, 9));
        x.mount(false);
        due("links(2)", 2, () -> x.links(2));
        refused("unlink of one of both names", STATE, () -> x.unlink(1, 9));
        x.unlink(2, 1);
        due("unlink of the empty one", 2, () -> x.unlink(1, 9));
        due("links(2) then", 1, () -> x.links(2));
    }

    private static void rename() {
        promise = 6;
        Nodewash x = small();
        due("rename(1, 2, 2, 5)", 3, () -> x.rename(1, 2, 2, 5));
        due("lookUp(2, 5)", 3, () -> x.lookUp(2, 5));
        due("lookUp(1, 2)", Nodewash.NONE, () -> x.lookUp(1, 2));
        due("the NAME node of the new name", 2002032L, () -> x.node(0, 6));
        due("the NAME node of the old name", 3001032L, () -> x.node(0, 7));
        due("rename onto a file", 3, () -> x.rename(2, 5, 2, 1));
        refused("that file is gone", INDEX, () -> x.length(4));
        due("byteAt(3, 0)", 1, () -> x.byteAt(3, 0));
        due("rename of a directory", 2, () -> x.rename(1, 1, 1, 7));
        due("links(2)", 1, () -> x.links(2));
        refused("rename(3, 1, 1, 0)", INDEX, () -> x.rename(3, 1, 1, 0));
        refused("rename(1, 0, 3, 1)", INDEX, () -> x.rename(1, 0, 3, 1));
        refused("rename(1, 0, 1, 1)", ARGUMENT, () -> x.rename(1, 0, 1, 1));
        refused("rename(1, 50, 1, 100)", ARGUMENT, () -> x.rename(1, 50, 1, 100));
        refused("rename of nothing", STATE, () -> x.rename(1, 50, 1, 51));
        refused("rename while dark", STATE, () -> dark().rename(9, 2, 1, 3));
    }

    private static void renameRefused() {
        promise = 6;
        Nodewash x = small();
        x.makeDirectory(2, 3);
        x.makeDirectory(1, 4);
        x.link(1, 9, 3);
        refused("onto itself", STATE, () -> x.rename(1, 2, 1, 2));
        refused("onto another name of it", STATE, () -> x.rename(1, 2, 1, 9));
        refused("a file onto a directory", STATE, () -> x.rename(1, 2, 1, 4));
        refused("a directory onto a file", STATE, () -> x.rename(1, 4, 1, 2));
        refused("a directory onto a directory", STATE, () -> x.rename(1, 4, 1, 1));
        refused("a directory into itself", STATE, () -> x.rename(1, 1, 2, 9));
        refused("a directory below itself", STATE, () -> x.rename(1, 1, 5, 9));
        due("a directory into another", 6, () -> x.rename(1, 4, 5, 9));
        refused("two steps below itself", STATE, () -> x.rename(1, 1, 6, 9));
        due("up again", 6, () -> x.rename(5, 9, 1, 4));
        x.cut(2);
        due("without power", Nodewash.DARK, () -> x.rename(1, 2, 1, 30));
    }

    private static void write() {
        promise = 7;
        Nodewash x = small();
        due("write(3, 1, 0x1FF, 1)", 5, () -> x.write(3, 1, 0x1FFL, 1));
        due("byteAt(3, 1)", 255, () -> x.byteAt(3, 1));
        due("byteAt(3, 2)", 3, () -> x.byteAt(3, 2));
        due("the node", 3003031L, () -> x.node(0, 6));
        due("write(3, 63, 7, 1)", 64, () -> x.write(3, 63, 7, 1));
        due("byteAt(3, 63)", 7, () -> x.byteAt(3, 63));
        due("byteAt(3, 30)", 0, () -> x.byteAt(3, 30));
        due("write of eight", 64, () -> x.write(3, 56, 0x8877665544332211L, 8));
        due("byteAt(3, 56)", 0x11, () -> x.byteAt(3, 56));
        due("byteAt(3, 63) then", 0x88, () -> x.byteAt(3, 63));
        refused("write(2, 0, 0, 1)", INDEX, () -> x.write(2, 0, 0, 1));
        refused("write(9, 64, 0, 1)", INDEX, () -> x.write(9, 64, 0, 1));
        refused("offset -1", ARGUMENT, () -> x.write(3, -1, 0, 1));
        refused("offset 64", ARGUMENT, () -> x.write(3, 64, 0, 1));
        refused("n 0", ARGUMENT, () -> x.write(3, 0, 0, 0));
        refused("n 9", ARGUMENT, () -> x.write(3, 0, 0, 9));
        refused("beyond 64", ARGUMENT, () -> x.write(3, 57, 0, 8));
        refused("the greatest n", ARGUMENT, () -> x.write(3, 1, 0, Integer.MAX_VALUE));
        refused("write while dark", STATE, () -> dark().write(9, 0, 0, 1));
        x.cut(2);
        due("write without power", Nodewash.DARK, () -> x.write(3, 0, 0, 3));
        x.mount(false);
        due("byteAt(3, 0) as before", 1, () -> x.byteAt(3, 0));
    }

    private static void truncate() {
        promise = 8;
        Nodewash x = small();
        due("truncate(3, 2)", 5, () -> x.truncate(3, 2));
        due("length(3)", 2, () -> x.length(3));
        due("truncate(3, 64)", 2, () -> x.truncate(3, 64));
        due("byteAt(3, 1)", 2, () -> x.byteAt(3, 1));
        due("byteAt(3, 2)", 0, () -> x.byteAt(3, 2));
        due("byteByNodes(3, 2)", 0, () -> x.byteByNodes(3, 2));
        due("the same length", 64, () -> x.truncate(3, 64));
        due("truncate(3, 0)", 64, () -> x.truncate(3, 0));
        due("the node", 3003021L, () -> x.node(0, 6));
        refused("truncate(1, 0)", INDEX, () -> x.truncate(1, 0));
        refused("truncate(9, 65)", INDEX, () -> x.truncate(9, 65));
        refused("truncate(3, -1)", ARGUMENT, () -> x.truncate(3, -1));
        refused("truncate(3, 65)", ARGUMENT, () -> x.truncate(3, 65));
        refused("truncate while dark", STATE, () -> dark().truncate(9, 1));
        x.cut(1);
        due("truncate without power", Nodewash.DARK, () -> x.truncate(3, 9));
        x.mount(false);
        due("length(3) as before", 0, () -> x.length(3));
    }

    /** The blocks 0 and 1 are dirty, block 2 is very dirty; they were closed in this order. */
    private static Nodewash washed() {
        Nodewash x = new Nodewash();
        x.create(1, 1);
        x.write(2, 0, -1L, 8);
        x.write(2, 8, -1L, 8);
        x.write(2, 16, -1L, 7);
        x.write(2, 30, -1L, 8);
        x.write(2, 40, -1L, 8);
        x.truncate(2, 48);
        x.write(2, 50, -1L, 8);
        for (int i = 0; i < 4; i++) {
            x.write(2, 50, i, 8);
        }
        return x;
    }

    private static void collect() {
        promise = 9;
        int[] draws = {0, 63, 64, 119, 120, 127};
        // There is no clean one: behind it in the row come the very dirty ones.
        int[] blocks = {2, 2, 0, 0, 2, 2};
        Nodewash y = washed();
        due("state(0)", Nodewash.DIRTY, () -> y.state(0));
        due("state(1)", Nodewash.DIRTY, () -> y.state(1));
        due("state(2)", Nodewash.VERY_DIRTY, () -> y.state(2));
        for (int i = 0; i < draws.length; i++) {
            int draw = draws[i];
            int want = blocks[i];
            due("collect(" + draw + ")", want, () -> washed().collect(draw));
        }
        refused("collect(-1)", ARGUMENT, () -> new Nodewash().collect(-1));
        refused("collect(128)", ARGUMENT, () -> washed().collect(128));
        refused("no closed block", STATE, () -> small0().collect(0));
        refused("collect while dark", STATE, () -> dark().collect(-1));
        due("collect(0)", 2, () -> y.collect(0));
        due("state(2) then", Nodewash.FREE, () -> y.state(2));
        due("erased(2)", 1, () -> y.erased(2));
        due("written(2)", 1, () -> y.written(2));
    }

    private static Nodewash small0() {
        Nodewash x = new Nodewash();
        x.create(1, 1);
        return x;
    }

    private static void collectClean() {
        promise = 9;
        Nodewash x = new Nodewash();
        for (int name = 1; name < 21; name++) {
            x.makeDirectory(1, name);
        }
        due("state(0)", Nodewash.CLEAN, () -> x.state(0));
        due("state(1)", Nodewash.CLEAN, () -> x.state(1));
        due("toCopy(0)", 9, () -> x.toCopy(0));
        due("the one closed first", 0, () -> x.collect(64));
        due("the one closed first then", 1, () -> x.collect(0));
        x.unlink(1, 1);
        for (int name = 30; name < 46; name++) {
            x.makeDirectory(1, name);
        }
        due("the block behind 5 in the free row", Nodewash.CURRENT, () -> x.state(6));
        due("names(1)", 35, () -> x.names(1));
    }

    /** A block that is collected goes behind the free ones. */
    private static void freeRow() {
        promise = 9;
        Nodewash x = washed();
        x.collect(0);
        int[] order = new int[8];
        int found = 0;
        for (int i = 0; i < 60 && found < 5; i++) {
            x.write(2, 50, i, 8);
            for (int b = 0; b < 8; b++) {
                if (x.state(b) == Nodewash.CURRENT && (found == 0 || order[found - 1] != b)) {
                    order[found++] = b;
                }
            }
        }
        String row = order[0] + " " + order[1] + " " + order[2] + " " + order[3] + " " + order[4];
        tell("the row of the current blocks", row, "3 4 5 6 7");
    }

    /** The older name would be back, if the node that takes it away were passed over. */
    private static void hiding() {
        promise = 9;
        Nodewash x = new Nodewash();
        x.create(1, 1);
        x.makeDirectory(1, 2);
        for (int i = 0; i < 3; i++) {
            x.write(2, 0, -1L, 8);
        }
        x.unlink(1, 1);
        for (int i = 3; i < 12; i++) {
            x.makeDirectory(1, i);
        }
        due("state(1)", Nodewash.DIRTY, () -> x.state(1));
        due("dead(1)", 13, () -> x.dead(1));
        due("toCopy(0): the directory's name", 1, () -> x.toCopy(0));
        due("toCopy(1): five names, the one without a target, not that of the file", 6, () -> x.toCopy(1));
        due("collect(64)", 1, () -> x.collect(64));
        due("lookUp(1, 1)", Nodewash.NONE, () -> x.lookUp(1, 1));
        due("mount(false)", x.mount(true), () -> x.mount(true));
        due("lookUp(1, 1) from the nodes", Nodewash.NONE, () -> x.lookUp(1, 1));
        due("collect(0)", 0, () -> x.collect(0));
        x.mount(false);
        due("lookUp(1, 1) then", Nodewash.NONE, () -> x.lookUp(1, 1));
    }

    /** A dead node of a shorter length hides bytes that later nodes leave alone. */
    private static void hidingBytes() {
        promise = 9;
        Nodewash x = new Nodewash();
        x.create(1, 1);
        x.write(2, 0, -1L, 8);
        x.write(2, 8, -1L, 8);
        x.create(1, 2);
        x.truncate(2, 4);
        due("written(0)", 38, () -> x.written(0));
        x.truncate(2, 16);
        for (int i = 3; i < 12; i++) {
            x.makeDirectory(1, i);
        }
        due("block 1 is closed", Nodewash.DIRTY, () -> x.state(1));
        due("only truncate(2, 4) is dead", 2, () -> x.dead(1));
        due("toCopy(1): all, also the dead one", x.nodes(1) - 1, () -> x.toCopy(1));
        due("collect(64)", 0, () -> x.collect(64));
        due("toCopy(1) then", x.nodes(1) - 1, () -> x.toCopy(1));
        due("collect(64) again", 1, () -> x.collect(64));
        due("byteByNodes(2, 3)", 255, () -> x.byteByNodes(2, 3));
        due("byteByNodes(2, 4)", 0, () -> x.byteByNodes(2, 4));
        x.mount(false);
        due("byteAt(2, 9)", 0, () -> x.byteAt(2, 9));
    }

    /** A shorter length that hides nothing but zeros is not missed. */
    private static void hidingZeros() {
        promise = 23;
        for (int value = 0; value < 2; value++) {
            Nodewash x = new Nodewash();
            x.create(1, 1);
            x.write(2, 0, (long) value << 56, 8);
            x.truncate(2, 4);
            x.truncate(2, 8);
            due("dead(0)", 4, () -> x.dead(0));
            due("toCopy(0)", 3 + value, () -> x.toCopy(0));
            due("toCopy(0) again", 3 + value, () -> x.toCopy(0));
        }
    }

    /** What was passed over stands there until the block is erased: it still keeps others dead. */
    private static void deadUntilErased() {
        promise = 23;
        Nodewash x = new Nodewash();
        x.create(1, 1);
        x.write(2, 0, 0xFFFFFFFFL, 8);
        for (int i = 2; i < 7; i++) {
            x.makeDirectory(1, i);
        }
        x.truncate(2, 4);
        x.truncate(2, 8);
        due("collect(64)", 0, () -> x.collect(64));
        x.write(2, 0, 1L, 4);
        due("node(1, 3)", 2002101L, () -> x.node(1, 3));
        due("dead(1)", 2 + 2 + 10, () -> x.dead(1));
        due("toCopy(1): five names alone", 5, () -> x.toCopy(1));
    }

    /** Copies that a loss of power left: only the first one is live, and one of them is enough. */
    private static void copies() {
        promise = 22;
        Nodewash x = new Nodewash();
        x.create(1, 1);
        x.write(2, 0, -1L, 8);
        for (int i = 2; i < 8; i++) {
            x.makeDirectory(1, i);
        }
        due("a block that is full to the last unit", 40, () -> x.written(0));
        due("its SUMMARY", 8 + 1, () -> x.nodes(0));
        x.cut(13);
        due("collect(0)", Nodewash.DARK, () -> x.collect(0));
        x.mount(false);
        due("dead(0)", 2, () -> x.dead(0));
        due("dead(1): two copies", 13, () -> x.dead(1));
        promise = 23;
        due("toCopy(1)", 1, () -> x.toCopy(1));
        due("toCopy(0)", 7, () -> x.toCopy(0));
        promise = 9;
        due("collect(64)", 0, () -> x.collect(64));
        due("byteByNodes(2, 7)", 255, () -> x.byteByNodes(2, 7));
        due("names(1)", 7, () -> x.names(1));
        due("dead(1): the copies of the copies", 13, () -> x.dead(1));
    }

    /** Garbage may take the last free block, the other methods may not. */
    private static void roomForGarbage() {
        promise = 9;
        Nodewash x = new Nodewash();
        for (int i = 1; i < 64; i++) {
            x.makeDirectory(1, i);
        }
        refused("no room", STATE, () -> x.makeDirectory(1, 64));
        refused("no room for unlink", STATE, () -> x.unlink(1, 1));
        due("state(7)", Nodewash.FREE, () -> x.state(7));
        due("collect(120)", 0, () -> x.collect(120));
        due("state(7) then", Nodewash.CURRENT, () -> x.state(7));
        due("state(0) then", Nodewash.FREE, () -> x.state(0));
        due("names(1)", 63, () -> x.names(1));
    }

    private static void collectWithoutPower() {
        promise = 9;
        for (int units = 0; units < 60; units++) {
            Nodewash x = washed();
            x.cut(units);
            if (x.collect(0) == Nodewash.DARK) {
                due("isDark", 1, () -> yes(x.isDark()));
                x.mount(units % 2 == 0);
            }
            due("length after " + units, 58, () -> x.length(2));
            due("byteAt(2, 50) after " + units, 3, () -> x.byteAt(2, 50));
            due("byteByNodes(2, 45) after " + units, 255, () -> x.byteByNodes(2, 45));
        }
    }

    private static void cut() {
        promise = 10;
        Nodewash x = new Nodewash();
        due("cut(1000)", Nodewash.NONE, () -> x.cut(1000));
        due("cut(0)", 1000, () -> x.cut(0));
        due("cut(NONE)", 0, () -> x.cut(Nodewash.NONE));
        due("cut(5)", Nodewash.NONE, () -> x.cut(5));
        refused("cut(-2)", ARGUMENT, () -> x.cut(-2));
        refused("cut(1001)", ARGUMENT, () -> x.cut(1001));
        due("create within the cut", 2, () -> x.create(1, 1));
        due("isDark", 0, () -> yes(x.isDark()));
        due("one more unit", Nodewash.DARK, () -> x.truncate(2, 1));
        due("no node of it", 2, () -> x.nodes(0));
        due("the cut is not set any more", Nodewash.NONE, () -> x.cut(3));
        refused("cut(1001) while dark", ARGUMENT, () -> x.cut(1001));
        due("cut(7) while dark", 3, () -> x.cut(7));
        x.mount(false);
        due("a mount leaves the cut", 7, () -> x.cut(Nodewash.NONE));
    }

    private static void mount() {
        promise = 11;
        Nodewash x = washed();
        long all = 0;
        long summed = 0;
        for (int b = 0; b < 8; b++) {
            all += x.written(b);
            long last = x.nodes(b) == 0 ? 0 : x.node(b, x.nodes(b) - 1);
            summed += last % 10 == Nodewash.SUMMARY ? last / 10 % 100 + 1 : x.written(b);
        }
        long wantAll = all;
        long wantSummed = summed;
        due("mount(false)", wantAll, () -> x.mount(false));
        due("mount(true)", wantSummed, () -> x.mount(true));
        due("less", 1, () -> yes(wantSummed < wantAll));
        due("length(2)", 58, () -> x.length(2));
        Nodewash y = dark();
        due("a mount of a dark one", 21 + 7, () -> y.mount(false));
        due("isDark", 0, () -> yes(y.isDark()));
        due("byteAt(3, 4)", 5, () -> y.byteAt(3, 4));
    }

    /** An erased block without a marker is erased anew by the mount, and the cut holds there too. */
    private static void mountErases() {
        promise = 11;
        Nodewash x = washed();
        x.cut(1000);
        x.collect(0);
        int units = 1000 - x.cut(Nodewash.NONE);
        Nodewash y = washed();
        y.cut(units - 1);
        due("collect(0)", Nodewash.DARK, () -> y.collect(0));
        due("written(2)", 0, () -> y.written(2));
        due("nodes(2)", 0, () -> y.nodes(2));
        due("erased(2)", 1, () -> y.erased(2));
        y.cut(0);
        due("mount without power", Nodewash.DARK, () -> y.mount(false));
        due("erased(2) as before", 1, () -> y.erased(2));
        y.cut(1);
        due("mount without power for the marker", Nodewash.DARK, () -> y.mount(true));
        due("erased(2) once more", 2, () -> y.erased(2));
        due("isDark", 1, () -> yes(y.isDark()));
        y.cut(2);
        due("mount with power", 1, () -> yes(y.mount(false) > 0));
        due("erased(2) at last", 3, () -> y.erased(2));
        due("state(2)", Nodewash.FREE, () -> y.state(2));
        due("the cut", 0, () -> y.cut(Nodewash.NONE));
        Nodewash z = washed();
        z.cut(units - 2);
        due("collect(0) without power to erase", Nodewash.DARK, () -> z.collect(0));
        due("erased(2) then", 0, () -> z.erased(2));
        due("written(2) then", washed().written(2), () -> z.written(2));
    }

    /** Of several blocks that could be written on, the one with the fewest units is the current one. */
    private static void mountCurrent() {
        promise = 11;
        Nodewash x = new Nodewash();
        x.create(1, 1);
        x.cut(1);
        x.write(2, 0, 1, 1);
        x.mount(false);
        due("a block with a torn node is closed", Nodewash.DIRTY, () -> x.state(0));
        due("no block is current", 0, () -> countOf(x, Nodewash.CURRENT));
        x.truncate(2, 3);
        due("the first free one", Nodewash.CURRENT, () -> x.state(1));
        x.mount(true);
        due("it is current again", Nodewash.CURRENT, () -> x.state(1));
        x.truncate(2, 4);
        due("and is written on", 2, () -> x.nodes(1));
        due("version behind the greatest whole one", 3002021L, () -> x.node(1, 1));
    }

    /** A block with a SUMMARY is closed; one with room for a node of 2 units, but of no more, is not. */
    private static void mountOpen() {
        promise = 11;
        Nodewash x = new Nodewash();
        x.create(1, 1);
        for (int i = 0; i < 5; i++) {
            x.write(2, 0, i, 8);
        }
        due("the SUMMARY", 53L, () -> x.node(0, 4));
        due("written(0)", 31, () -> x.written(0));
        due("written(1)", 31, () -> x.written(1));
        x.mount(true);
        due("state(0)", Nodewash.VERY_DIRTY, () -> x.state(0));
        due("state(1)", Nodewash.CURRENT, () -> x.state(1));
        Nodewash y = new Nodewash();
        y.create(1, 1);
        for (int i = 2; i < 9; i++) {
            y.makeDirectory(1, i);
        }
        y.mount(false);
        due("room for 2 units", Nodewash.CURRENT, () -> y.state(0));
        y.truncate(2, 0);
        due("written(0)", 29, () -> y.written(0));
        y.mount(false);
        due("no room for 2 units", Nodewash.DIRTY, () -> y.state(0));
        y.truncate(2, 0);
        due("without a SUMMARY", 10, () -> y.nodes(0));
    }

    private static void mountNumbers() {
        promise = 11;
        Nodewash x = small();
        x.link(1, 3, 3);
        x.mount(false);
        due("a link is that of a file", 0, () -> yes(x.isDirectory(3)));
        due("links(3)", 2, () -> x.links(3));
        x.unlink(1, 2);
        due("the version of a NAME node", 4001032L, () -> x.node(0, 7));
        x.mount(true);
        due("the link alone is that of a file", 0, () -> yes(x.isDirectory(3)));
        Nodewash y = new Nodewash();
        y.makeDirectory(1, 1);
        y.unlink(1, 1);
        y.mount(true);
        due("the number behind a target", 3, () -> y.makeDirectory(1, 1));
        due("the version behind both", 3001032L, () -> y.node(0, 2));
    }

    private static void isDark() {
        promise = 12;
        Nodewash x = small();
        due("isDark", 0, () -> yes(x.isDark()));
        x.cut(1);
        due("isDark with a cut", 0, () -> yes(x.isDark()));
        x.truncate(3, 0);
        due("isDark then", 1, () -> yes(x.isDark()));
        x.cut(Nodewash.NONE);
        due("isDark still", 1, () -> yes(x.isDark()));
        x.mount(false);
        due("isDark after the mount", 0, () -> yes(x.isDark()));
    }

    private static void lookUp() {
        promise = 13;
        Nodewash x = small();
        due("lookUp(1, 1)", 2, () -> x.lookUp(1, 1));
        due("lookUp(2, 1)", 4, () -> x.lookUp(2, 1));
        due("lookUp(1, 99)", Nodewash.NONE, () -> x.lookUp(1, 99));
        refused("lookUp(3, 0)", INDEX, () -> x.lookUp(3, 0));
        refused("lookUp(-1, 1)", INDEX, () -> x.lookUp(-1, 1));
        refused("lookUp(1, 0)", ARGUMENT, () -> x.lookUp(1, 0));
        refused("lookUp(1, 100)", ARGUMENT, () -> x.lookUp(1, 100));
        refused("lookUp while dark", STATE, () -> dark().lookUp(3, 0));
    }

    private static void names() {
        promise = 14;
        Nodewash x = small();
        due("names(1)", 2, () -> x.names(1));
        due("names(2)", 1, () -> x.names(2));
        x.link(2, 7, 4);
        due("names(2) with two of one file", 2, () -> x.names(2));
        x.unlink(2, 1);
        due("names(2) then", 1, () -> x.names(2));
        refused("names(3)", INDEX, () -> x.names(3));
        refused("names(0)", INDEX, () -> x.names(0));
        refused("names while dark", STATE, () -> dark().names(0));
    }

    private static void nameAt() {
        promise = 15;
        Nodewash x = small();
        x.create(1, 99);
        x.create(1, 50);
        tell("the names", x.nameAt(1, 0) + " " + x.nameAt(1, 1) + " " + x.nameAt(1, 2) + " " + x.nameAt(1, 3),
                "1 2 50 99");
        refused("nameAt(1, 4)", INDEX, () -> x.nameAt(1, 4));
        refused("nameAt(1, -1)", INDEX, () -> x.nameAt(1, -1));
        refused("nameAt(3, 0)", INDEX, () -> x.nameAt(3, 0));
        refused("nameAt while dark", STATE, () -> dark().nameAt(1, 9));
    }

    private static void isDirectory() {
        promise = 16;
        Nodewash x = small();
        due("isDirectory(1)", 1, () -> yes(x.isDirectory(1)));
        due("isDirectory(2)", 1, () -> yes(x.isDirectory(2)));
        due("isDirectory(3)", 0, () -> yes(x.isDirectory(3)));
        refused("isDirectory(5)", INDEX, () -> yes(x.isDirectory(5)));
        refused("isDirectory(0)", INDEX, () -> yes(x.isDirectory(0)));
        x.unlink(1, 2);
        refused("isDirectory(3) then", INDEX, () -> yes(x.isDirectory(3)));
        refused("isDirectory while dark", STATE, () -> yes(dark().isDirectory(9)));
    }

    private static void links() {
        promise = 17;
        Nodewash x = small();
        due("links(1)", 0, () -> x.links(1));
        due("links(2)", 1, () -> x.links(2));
        x.link(2, 50, 3);
        due("links(3)", 2, () -> x.links(3));
        x.rename(2, 50, 2, 1);
        due("links(3) then", 2, () -> x.links(3));
        refused("links(4)", INDEX, () -> x.links(4));
        refused("links(-5)", INDEX, () -> x.links(-5));
        refused("links while dark", STATE, () -> dark().links(9));
    }

    private static void length() {
        promise = 18;
        Nodewash x = small();
        due("length(3)", 5, () -> x.length(3));
        due("length(4)", 0, () -> x.length(4));
        x.truncate(4, 64);
        due("length(4) then", 64, () -> x.length(4));
        refused("length(1)", INDEX, () -> x.length(1));
        refused("length(5)", INDEX, () -> x.length(5));
        refused("length while dark", STATE, () -> dark().length(9));
    }

    private static void bytes() {
        Nodewash x = small();
        x.write(3, 4, 0x80FFL, 2);
        x.truncate(3, 9);
        int[] want = {1, 2, 3, 4, 255, 128, 0, 0, 0};
        for (int i = 0; i < want.length; i++) {
            int place = i;
            promise = 19;
            due("byteAt(3, " + i + ")", want[i], () -> x.byteAt(3, place));
            promise = 20;
            due("byteByNodes(3, " + i + ")", want[i], () -> x.byteByNodes(3, place));
        }
        promise = 19;
        refused("byteAt(3, 9)", INDEX, () -> x.byteAt(3, 9));
        refused("byteAt(3, -1)", INDEX, () -> x.byteAt(3, -1));
        refused("byteAt(4, 0)", INDEX, () -> x.byteAt(4, 0));
        refused("byteAt(2, 0)", INDEX, () -> x.byteAt(2, 0));
        refused("byteAt while dark", STATE, () -> dark().byteAt(9, 0));
        promise = 20;
        refused("byteByNodes(3, 9)", INDEX, () -> x.byteByNodes(3, 9));
        refused("byteByNodes(3, -1)", INDEX, () -> x.byteByNodes(3, -1));
        refused("byteByNodes(4, 0)", INDEX, () -> x.byteByNodes(4, 0));
        refused("byteByNodes(2, 0)", INDEX, () -> x.byteByNodes(2, 0));
        refused("byteByNodes while dark", STATE, () -> dark().byteByNodes(9, 0));
        x.unlink(1, 2);
        refused("byteByNodes of a file that is gone", INDEX, () -> x.byteByNodes(3, 0));
    }

    private static void state() {
        promise = 21;
        Nodewash x = new Nodewash();
        due("FREE", Nodewash.FREE, () -> x.state(0));
        for (int i = 1; i < 11; i++) {
            x.makeDirectory(1, i);
        }
        due("CLEAN", Nodewash.CLEAN, () -> x.state(0));
        due("CURRENT", Nodewash.CURRENT, () -> x.state(1));
        for (int i = 1; i < 5; i++) {
            x.unlink(1, i);
        }
        due("12 of 27 units are dead", 12, () -> x.dead(0));
        due("DIRTY", Nodewash.DIRTY, () -> x.state(0));
        x.unlink(1, 5);
        due("VERY_DIRTY", Nodewash.VERY_DIRTY, () -> x.state(0));
        refused("state(8)", INDEX, () -> x.state(8));
        refused("state(-1)", INDEX, () -> x.state(-1));
        refused("state while dark", STATE, () -> dark().state(8));
    }

    /** Twelve dead units are half of 24, but not of 25; the SUMMARY does not count. */
    private static void stateAtHalf() {
        promise = 21;
        for (int n = 3; n < 5; n++) {
            Nodewash x = new Nodewash();
            x.create(1, 1);
            x.write(2, 0, -1L, 8);
            x.write(2, 20, -1L, 2);
            x.write(2, 30, -1L, n);
            x.write(2, 0, -1L, 8);
            due("nodes(0)", 6, () -> x.nodes(0));
            due("dead(0)", 12, () -> x.dead(0));
            due("state(0)", n == 3 ? Nodewash.VERY_DIRTY : Nodewash.DIRTY, () -> x.state(0));
        }
    }

    /** A SUMMARY without power is a torn node. */
    private static void tornSummary() {
        promise = 21;
        Nodewash x = new Nodewash();
        for (int i = 1; i < 10; i++) {
            x.makeDirectory(1, i);
        }
        x.cut(9);
        due("makeDirectory", Nodewash.DARK, () -> x.makeDirectory(1, 10));
        due("node(0, 9)", Nodewash.TORN + 90, () -> x.node(0, 9));
        due("mount(true)", 37 + 7, () -> x.mount(true));
        due("dead(0)", 9, () -> x.dead(0));
        due("state(0)", Nodewash.DIRTY, () -> x.state(0));
        due("the next number", 11, () -> x.makeDirectory(1, 10));
        due("it is in block 1", 1, () -> x.nodes(1));
    }

    private static void deadAndToCopy() {
        promise = 22;
        Nodewash x = small();
        due("dead(0): the first node of the file 3", 2, () -> x.dead(0));
        due("dead(7)", 0, () -> x.dead(7));
        x.unlink(2, 1);
        due("dead(0) without the file 4, and with what took its name away", 2 + 5 + 3, () -> x.dead(0));
        refused("dead(8)", INDEX, () -> x.dead(8));
        refused("dead(-1)", INDEX, () -> x.dead(-1));
        refused("dead while dark", STATE, () -> dark().dead(8));
        promise = 23;
        due("toCopy(0): two names, the bytes", 3, () -> x.toCopy(0));
        due("toCopy(5)", 0, () -> x.toCopy(5));
        refused("toCopy(8)", INDEX, () -> x.toCopy(8));
        refused("toCopy(-1)", INDEX, () -> x.toCopy(-1));
        refused("toCopy while dark", STATE, () -> dark().toCopy(8));
    }

    private static void blocksInTheDark() {
        Nodewash x = dark();
        promise = 24;
        due("written(0)", 21, () -> x.written(0));
        due("written(7)", 1, () -> x.written(7));
        refused("written(8)", INDEX, () -> x.written(8));
        refused("written(-1)", INDEX, () -> x.written(-1));
        promise = 25;
        due("nodes(0)", 6, () -> x.nodes(0));
        due("nodes(1)", 0, () -> x.nodes(1));
        refused("nodes(8)", INDEX, () -> x.nodes(8));
        refused("nodes(-1)", INDEX, () -> x.nodes(-1));
        promise = 26;
        due("node(0, 0)", 1001032L, () -> x.node(0, 0));
        due("node(0, 1)", 1003021L, () -> x.node(0, 1));
        due("node(0, 5)", 2003071L, () -> x.node(0, 5));
        due("a SUMMARY of four nodes", 53L, () -> washed().node(0, 4));
        refused("node(0, 6)", INDEX, () -> x.node(0, 6));
        refused("node(0, -1)", INDEX, () -> x.node(0, -1));
        refused("node(1, 0)", INDEX, () -> x.node(1, 0));
        refused("node(8, 0)", INDEX, () -> x.node(8, 0));
        promise = 27;
        due("erased(0)", 0, () -> x.erased(0));
        refused("erased(8)", INDEX, () -> x.erased(8));
        refused("erased(-1)", INDEX, () -> x.erased(-1));
    }

    public static void main(String[] args) {
        newObject();
        constants();
        create();
        room();
        makeDirectory();
        link();
        unlink();
        unlinkDirectoryWithTwoNames();
        rename();
        renameRefused();
        write();
        truncate();
        collect();
        collectClean();
        freeRow();
        hiding();
        hidingBytes();
        hidingZeros();
        deadUntilErased();
        copies();
        roomForGarbage();
        collectWithoutPower();
        cut();
        mount();
        mountErases();
        mountCurrent();
        mountOpen();
        mountNumbers();
        isDark();
        lookUp();
        names();
        nameAt();
        isDirectory();
        links();
        length();
        bytes();
        state();
        stateAtHalf();
        tornSummary();
        deadAndToCopy();
        blocksInTheDark();
        System.out.println(wrong == 0 ? "all answers are as due" : wrong + " answers are not as due");
        if (wrong != 0) {
            System.exit(1);
        }
    }
}
