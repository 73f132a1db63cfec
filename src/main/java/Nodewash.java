/** A file system for small flash, kept as a log of nodes. */
public final class Nodewash {
    public static final int NONE = -1;
    public static final int DARK = -9;
    public static final int FREE = 0, CURRENT = 1, CLEAN = 2, DIRTY = 3, VERY_DIRTY = 4;
    public static final int DATA = 1, NAME = 2, SUMMARY = 3, TORN = 4;

    private static final int BLOCKS = 8;
    private static final int BLOCK_UNITS = 40;
    /** Twelve nodes of 2 units and their SUMMARY are the most that a block can hold. */
    private static final int PLACES = 16;
    private static final int DATA_UNITS = 2;
    private static final int NAME_UNITS = 3;
    private static final int ROOT = 1;
    private static final int LAST_NAME = 99;
    private static final int LONGEST = 64;
    private static final int MOST_BYTES = 8;
    private static final int LAST_DRAW = 127;
    private static final int LAST_CUT = 1000;
    private static final int ANY_VERSION = 2147483647;

    private final Flash flash;
    private final Log log;
    private final Tree tree;
    private final Judge judge;
    private final Node draft;

    public Nodewash() {
        flash = new Flash();
        log = new Log(flash);
        tree = new Tree();
        judge = new Judge(flash, tree);
        draft = new Node();
    }

    // ---- files and directories

    public int create(int directory, int name)
            throws IndexOutOfBoundsException, IllegalArgumentException, IllegalStateException {
        Item home = directoryThere(directory);
        refuseWrongName(name);
        refuseTakenName(home, name);
        refuseWithoutRoom(DATA_UNITS, NAME_UNITS);
        int number = tree.nextNumber;
        draft.becomeData(number, 1, 0, 0);
        if (!log.put(draft) || !putName(home, name, number, false)) {
            return DARK;
        }
        Item file = tree.add(number, false);
        file.version = 1;
        tree.assign(home, name, file);
        return number;
    }

    public int makeDirectory(int directory, int name)
            throws IndexOutOfBoundsException, IllegalArgumentException, IllegalStateException {
        Item home = directoryThere(directory);
        refuseWrongName(name);
        refuseTakenName(home, name);
        refuseWithoutRoom(NAME_UNITS, 0);
        int number = tree.nextNumber;
        if (!putName(home, name, number, true)) {
            return DARK;
        }
        tree.assign(home, name, tree.add(number, true));
        return number;
    }

    public int link(int directory, int name, int file)
            throws IndexOutOfBoundsException, IllegalArgumentException, IllegalStateException {
        Item home = directoryThere(directory);
        Item linked = fileThere(file);
        refuseWrongName(name);
        refuseTakenName(home, name);
        refuseWithoutRoom(NAME_UNITS, 0);
        if (!putName(home, name, file, false)) {
            return DARK;
        }
        tree.assign(home, name, linked);
        return linked.linkCount;
    }

    public int unlink(int directory, int name)
            throws IndexOutOfBoundsException, IllegalArgumentException, IllegalStateException {
        Item home = directoryThere(directory);
        refuseWrongName(name);
        Item named = itemNamed(home, name);
        if (named.nameCount > 0) {
            throw new IllegalStateException("the directory has names in it");
        }
        refuseWithoutRoom(NAME_UNITS, 0);
        int number = named.number;
        if (!putName(home, name, 0, false)) {
            return DARK;
        }
        tree.assign(home, name, null);
        return number;
    }

    public int rename(int directory, int name, int toDirectory, int toName)
            throws IndexOutOfBoundsException, IllegalArgumentException, IllegalStateException {
        Item from = directoryThere(directory);
        Item to = directoryThere(toDirectory);
        refuseWrongName(name);
        refuseWrongName(toName);
        Item moved = itemNamed(from, name);
        refuseWrongMove(moved, to, tree.find(to.cell(toName)));
        refuseWithoutRoom(NAME_UNITS, NAME_UNITS);
        int number = moved.number;
        if (!putName(to, toName, number, moved.directory) || !putName(from, name, 0, false)) {
            return DARK;
        }
        tree.assign(to, toName, moved);
        tree.assign(from, name, null);
        return number;
    }

    public int write(int file, int offset, long bytes, int n)
            throws IndexOutOfBoundsException, IllegalArgumentException, IllegalStateException {
        Item written = fileThere(file);
        if (offset < 0 || offset >= LONGEST) {
            throw new IllegalArgumentException("the offset is not 0 to 63");
        }
        if (n < 1 || n > MOST_BYTES || n > LONGEST - offset) {
            throw new IllegalArgumentException("n is out of range");
        }
        refuseWithoutRoom(DATA_UNITS + n, 0);
        draft.becomeData(file, written.version + 1, offset, Math.max(written.size, offset + n));
        draft.giveBytes(bytes, n);
        return putContent(written) ? written.size : DARK;
    }

    public int truncate(int file, int length)
            throws IndexOutOfBoundsException, IllegalArgumentException, IllegalStateException {
        Item cropped = fileThere(file);
        if (length < 0 || length > LONGEST) {
            throw new IllegalArgumentException("the length is not 0 to 64");
        }
        refuseWithoutRoom(DATA_UNITS, 0);
        int before = cropped.size;
        draft.becomeData(file, cropped.version + 1, 0, length);
        return putContent(cropped) ? before : DARK;
    }

    // ---- garbage, power

    public int collect(int draw) throws IllegalArgumentException, IllegalStateException {
        refuseInDark();
        if (draw < 0 || draw > LAST_DRAW) {
            throw new IllegalArgumentException("the draw is not 0 to 127");
        }
        int block = victim(draw);
        if (block == NONE) {
            throw new IllegalStateException("no block is closed");
        }
        int copies = judge.choose(block);
        refuseWithoutRoomFor(copies);
        for (int i = 0; i < copies; i++) {
            if (!log.put(judge.chosenAt(i))) {
                return DARK;
            }
        }
        return log.freeClosed(block) ? block : DARK;
    }

    public int cut(int units) throws IllegalArgumentException {
        if (units != NONE && (units < 0 || units > LAST_CUT)) {
            throw new IllegalArgumentException("the units are not 0 to 1000, nor NONE");
        }
        int left = flash.unitsLeft;
        flash.unitsLeft = units;
        return left;
    }

    public int mount(boolean bySummaries) {
        int read = 0;
        for (int block = 0; block < BLOCKS; block++) {
            read += unitsToRead(block, bySummaries);
        }
        flash.dark = false;
        log.restart();
        tree.restart(flash);
        return log.eraseBroken() ? read : DARK;
    }

    public boolean isDark() {
        return flash.dark;
    }

    // ---- what is there

    public int lookUp(int directory, int name)
            throws IndexOutOfBoundsException, IllegalArgumentException, IllegalStateException {
        Item home = directoryThere(directory);
        refuseWrongName(name);
        int target = home.cell(name);
        return target == 0 ? NONE : target;
    }

    public int names(int directory) throws IndexOutOfBoundsException, IllegalStateException {
        return directoryThere(directory).nameCount;
    }

    public int nameAt(int directory, int place) throws IndexOutOfBoundsException, IllegalStateException {
        Item home = directoryThere(directory);
        if (place < 0 || place >= home.nameCount) {
            throw new IndexOutOfBoundsException("the directory has not so many names");
        }
        return home.nameBehind(place);
    }

    public boolean isDirectory(int number) throws IndexOutOfBoundsException, IllegalStateException {
        return itemThere(number).directory;
    }

    public int links(int number) throws IndexOutOfBoundsException, IllegalStateException {
        return itemThere(number).linkCount;
    }

    public int length(int file) throws IndexOutOfBoundsException, IllegalStateException {
        return fileThere(file).size;
    }

    public int byteAt(int file, int place) throws IndexOutOfBoundsException, IllegalStateException {
        Item read = fileThere(file);
        refuseWrongPlace(read, place);
        return read.cell(place);
    }

    public int byteByNodes(int file, int place) throws IndexOutOfBoundsException, IllegalStateException {
        refuseWrongPlace(fileThere(file), place);
        Node deciding = flash.newest(DATA, file, place, ANY_VERSION);
        return deciding == null ? 0 : deciding.byteFor(place);
    }

    // ---- blocks

    public int state(int block) throws IndexOutOfBoundsException, IllegalStateException {
        refuseInDark();
        refuseWrongBlock(block);
        if (log.isFree(block)) {
            return FREE;
        }
        return block == log.current ? CURRENT : judge.dirtOf(block);
    }

    public int dead(int block) throws IndexOutOfBoundsException, IllegalStateException {
        refuseInDark();
        refuseWrongBlock(block);
        return judge.deadUnits(block);
    }

    public int toCopy(int block) throws IndexOutOfBoundsException, IllegalStateException {
        refuseInDark();
        refuseWrongBlock(block);
        return judge.choose(block);
    }

    public int written(int block) throws IndexOutOfBoundsException {
        refuseWrongBlock(block);
        return flash.usedOf(block);
    }

    public int nodes(int block) throws IndexOutOfBoundsException {
        refuseWrongBlock(block);
        return flash.countOf(block);
    }

    public long node(int block, int place) throws IndexOutOfBoundsException {
        refuseWrongBlock(block);
        if (place < 0 || place >= flash.countOf(block)) {
            throw new IndexOutOfBoundsException("the block has no such node");
        }
        Node shown = flash.at(block, place);
        if (!shown.isWhole()) {
            return TORN + 10L * shown.present;
        }
        return shown.kind + 10L * shown.present + 1000L * shown.number + 1000000L * shown.version;
    }

    public int erased(int block) throws IndexOutOfBoundsException {
        refuseWrongBlock(block);
        return flash.erasuresOf(block);
    }

    // ---- what is refused

    private void refuseInDark() {
        if (flash.dark) {
            throw new IllegalStateException("it is dark");
        }
    }

    private Item itemThere(int number) {
        refuseInDark();
        Item item = tree.find(number);
        if (item == null) {
            throw new IndexOutOfBoundsException("there is nothing with this number");
        }
        return item;
    }

    private Item directoryThere(int number) {
        Item item = itemThere(number);
        if (!item.directory) {
            throw new IndexOutOfBoundsException("this number is that of a file");
        }
        return item;
    }

    private Item fileThere(int number) {
        Item item = itemThere(number);
        if (item.directory) {
            throw new IndexOutOfBoundsException("this number is that of a directory");
        }
        return item;
    }

    private Item itemNamed(Item home, int name) {
        Item item = tree.find(home.cell(name));
        if (item == null) {
            throw new IllegalStateException("nothing has this name");
        }
        return item;
    }

    private void refuseWrongName(int name) {
        if (name < 1 || name > LAST_NAME) {
            throw new IllegalArgumentException("the name is not 1 to 99");
        }
    }

    private void refuseTakenName(Item home, int name) {
        if (home.cell(name) != 0) {
            throw new IllegalStateException("the name is taken");
        }
    }

    private void refuseWrongMove(Item moved, Item to, Item taken) {
        if (taken == moved) {
            throw new IllegalStateException("both names are those of the same number");
        }
        if (taken != null && (taken.directory || moved.directory)) {
            throw new IllegalStateException("the new name is taken");
        }
        if (moved.directory && tree.leadsTo(moved, to)) {
            throw new IllegalStateException("a directory would come into itself, or below itself");
        }
    }

    private void refuseWrongPlace(Item file, int place) {
        if (place < 0 || place >= file.size) {
            throw new IndexOutOfBoundsException("the file has no such byte");
        }
    }

    private void refuseWrongBlock(int block) {
        if (block < 0 || block >= BLOCKS) {
            throw new IndexOutOfBoundsException("there is no such block");
        }
    }

    /** The second size is 0 if only one node is to be written. */
    private void refuseWithoutRoom(int first, int second) {
        log.beginTrial(log.freeCount - 1);
        if (!log.takesInTrial(first) || second != 0 && !log.takesInTrial(second)) {
            throw new IllegalStateException("there is no room");
        }
    }

    private void refuseWithoutRoomFor(int copies) {
        log.beginTrial(log.freeCount);
        for (int i = 0; i < copies; i++) {
            if (!log.takesInTrial(judge.chosenAt(i).units)) {
                throw new IllegalStateException("there is no room for the copies");
            }
        }
    }

    // ---- what is done

    private boolean putName(Item home, int name, int target, boolean toDirectory) {
        home.version++;
        draft.becomeName(home.number, home.version, name, target, toDirectory);
        return log.put(draft);
    }

    private boolean putContent(Item file) {
        if (!log.put(draft)) {
            return false;
        }
        file.lay(draft);
        return true;
    }

    private int victim(int draw) {
        int wanted = draw < 64 ? 0 : draw < 120 ? 1 : 2;
        int best = NONE;
        int bestRank = 3;
        for (int i = 0; i < log.closedCount; i++) {
            int block = log.closedAt(i);
            int rank = Math.floorMod(VERY_DIRTY - judge.dirtOf(block) - wanted, 3);
            if (rank < bestRank) {
                best = block;
                bestRank = rank;
            }
        }
        return best;
    }

    private int unitsToRead(int block, boolean bySummaries) {
        Node last = flash.at(block, flash.countOf(block) - 1);
        boolean summed = last.kind == SUMMARY && last.isWhole();
        return bySummaries && summed ? last.units + 1 : flash.usedOf(block);
    }

    /** A node on the flash, or one that is to be written. */
    private static final class Node {
        private int kind;
        private int units;
        private int present;
        private int number;
        private int version;
        /** Of a DATA node the offset, of a NAME node the name. */
        private int spot;
        private int byteCount;
        private long bytes;
        /** A bit for each place of the file at which it lays a byte. */
        private long laid;
        private int size;
        private int target;
        private boolean toDirectory;
        private boolean dead;
        /** Whether a collection that is being thought through has passed it over. */
        private boolean passed;

        void clear() {
            kind = 0;
            units = 0;
            present = 0;
            number = 0;
            version = 0;
            spot = 0;
            byteCount = 0;
            bytes = 0;
            laid = 0;
            size = 0;
            target = 0;
            toDirectory = false;
            dead = false;
            passed = false;
        }

        void becomeData(int file, int newVersion, int offset, int newSize) {
            clear();
            kind = DATA;
            units = DATA_UNITS;
            number = file;
            version = newVersion;
            spot = offset;
            size = newSize;
        }

        void giveBytes(long newBytes, int n) {
            bytes = newBytes;
            byteCount = n;
            laid = (1L << n) - 1 << spot;
            units = DATA_UNITS + n;
        }

        void becomeName(int home, int newVersion, int name, int newTarget, boolean isToDirectory) {
            clear();
            kind = NAME;
            units = NAME_UNITS;
            number = home;
            version = newVersion;
            spot = name;
            target = newTarget;
            toDirectory = isToDirectory;
        }

        void becomeSummary(int count) {
            clear();
            kind = SUMMARY;
            units = 1 + count;
        }

        /** Becomes a copy of which no unit is written yet. */
        void copyFrom(Node other) {
            kind = other.kind;
            units = other.units;
            present = 0;
            number = other.number;
            version = other.version;
            spot = other.spot;
            byteCount = other.byteCount;
            bytes = other.bytes;
            laid = other.laid;
            size = other.size;
            target = other.target;
            toDirectory = other.toDirectory;
            dead = false;
            passed = false;
        }

        boolean isWhole() {
            return kind != 0 && present == units;
        }

        boolean tells(int wantedKind, int wantedNumber) {
            return kind == wantedKind && number == wantedNumber && present == units && !passed;
        }

        boolean isCopyOf(Node other) {
            return tells(other.kind, other.number) && version == other.version;
        }

        boolean laysAt(int place) {
            return place >= spot && place - spot < byteCount;
        }

        /** Whether it settles what this name is, or what is at this place of the file. */
        boolean settles(int key) {
            if (kind == NAME) {
                return spot == key;
            }
            return key >= size || key >= spot && key - spot < byteCount;
        }

        int byteFor(int place) {
            return laysAt(place) ? (int) (bytes >>> 8 * (place - spot)) & 255 : 0;
        }

        /** A bit for each place of the file that it settles. */
        long settledPlaces() {
            return size >= LONGEST ? laid : laid | -1L << size;
        }
    }

    /** The blocks and the power. */
    private static final class Flash {
        private final Node[] rows = new Node[BLOCKS * PLACES];
        private final int[] used = new int[BLOCKS];
        private final int[] counts = new int[BLOCKS];
        private final int[] erasures = new int[BLOCKS];
        private final Node nowhere = new Node();
        private int unitsLeft = NONE;
        private boolean dark;

        Flash() {
            for (int block = 0; block < BLOCKS; block++) {
                used[block] = 1;
            }
        }

        boolean has(int block) {
            return block >= 0 && block < BLOCKS;
        }

        int usedOf(int block) {
            return has(block) ? used[block] : 0;
        }

        int countOf(int block) {
            return has(block) ? counts[block] : 0;
        }

        int erasuresOf(int block) {
            return has(block) ? erasures[block] : 0;
        }

        Node at(int block, int place) {
            return has(block) && place >= 0 && place < PLACES ? row(block * PLACES + place) : nowhere;
        }

        /** The rows go by blocks and places. */
        Node row(int index) {
            Node node = index >= 0 && index < rows.length ? rows[index] : null;
            return node == null ? nowhere : node;
        }

        /** The first of the nodes with the greatest version below this one that settle the key. */
        Node newest(int kind, int number, int key, int below) {
            Node best = null;
            for (int i = 0; i < rows.length; i++) {
                Node node = row(i);
                if (node.tells(kind, number) && node.version < below && node.settles(key)
                        && (best == null || node.version > best.version)) {
                    best = node;
                }
            }
            return best;
        }

        /** The DATA node of a file with the lowest version above this one. */
        Node nextData(int file, int above) {
            Node best = null;
            for (int i = 0; i < rows.length; i++) {
                Node node = row(i);
                if (node.tells(DATA, file) && node.version > above
                        && (best == null || node.version < best.version)) {
                    best = node;
                }
            }
            return best;
        }

        /** The places of its file that newer nodes settle. */
        long settledByNewer(Node old) {
            long places = 0;
            for (int i = 0; i < rows.length; i++) {
                Node node = row(i);
                if (node.tells(DATA, old.number) && node.version > old.version) {
                    places |= node.settledPlaces();
                }
            }
            return places;
        }

        Node firstCopy(Node wanted) {
            for (int i = 0; i < rows.length; i++) {
                Node node = row(i);
                if (node.isCopyOf(wanted)) {
                    return node;
                }
            }
            return null;
        }

        /** Tells whether there is still power for one unit, and takes it from the cut. */
        boolean spend() {
            if (unitsLeft == 0) {
                unitsLeft = NONE;
                dark = true;
                return false;
            }
            if (unitsLeft > 0) {
                unitsLeft--;
            }
            return true;
        }

        boolean append(int block, Node source) {
            Node node = null;
            for (int unit = 0; unit < source.units; unit++) {
                if (!spend()) {
                    return false;
                }
                if (node == null) {
                    node = begin(block, source);
                }
                node.present++;
                if (has(block)) {
                    used[block]++;
                }
            }
            return true;
        }

        private Node begin(int block, Node source) {
            if (!has(block) || counts[block] >= PLACES) {
                return nowhere;
            }
            int index = block * PLACES + counts[block];
            if (index < 0 || index >= rows.length) {
                return nowhere;
            }
            Node node = rows[index] == null ? new Node() : rows[index];
            rows[index] = node;
            counts[block]++;
            node.copyFrom(source);
            return node;
        }

        boolean erase(int block) {
            if (!has(block) || !spend()) {
                return false;
            }
            for (int place = 0; place < PLACES; place++) {
                at(block, place).clear();
            }
            counts[block] = 0;
            used[block] = 0;
            erasures[block]++;
            if (!spend()) {
                return false;
            }
            used[block] = 1;
            return true;
        }
    }

    /** Which block is written into, which ones are free, and which ones are closed. */
    private static final class Log {
        private final Flash flash;
        private final Node summary = new Node();
        private final int[] free = new int[BLOCKS];
        private final int[] closed = new int[BLOCKS];
        private int current = NONE;
        private int freeCount;
        private int closedCount;
        private int trialUsed;
        private int trialNodes;
        private int trialFree;

        Log(Flash itsFlash) {
            flash = itsFlash;
            for (int block = 0; block < BLOCKS; block++) {
                free[block] = block;
            }
            freeCount = BLOCKS;
        }

        boolean isFree(int block) {
            for (int i = 0; i < freeCount && i < BLOCKS; i++) {
                if (free[i] == block) {
                    return true;
                }
            }
            return false;
        }

        int closedAt(int index) {
            return index >= 0 && index < closedCount && index < BLOCKS ? closed[index] : NONE;
        }

        private void addFree(int block) {
            if (freeCount >= 0 && freeCount < BLOCKS) {
                free[freeCount] = block;
                freeCount++;
            }
        }

        private void addClosed(int block) {
            if (closedCount >= 0 && closedCount < BLOCKS) {
                closed[closedCount] = block;
                closedCount++;
            }
        }

        private int takeFree() {
            if (freeCount <= 0) {
                return NONE;
            }
            int first = free[0];
            freeCount--;
            for (int i = 0; i < freeCount && i + 1 < BLOCKS; i++) {
                free[i] = free[i + 1];
            }
            return first;
        }

        private void dropClosed(int block) {
            int kept = 0;
            for (int i = 0; i < closedCount && i < BLOCKS; i++) {
                if (closed[i] != block) {
                    closed[kept] = closed[i];
                    kept++;
                }
            }
            closedCount = kept;
        }

        /** Whether a node goes into a block, together with the SUMMARY of all nodes then. */
        private boolean fits(int used, int count, int units) {
            return used + units + 1 + count + 1 <= BLOCK_UNITS;
        }

        /** Begins to count how nodes would be written, with so many of the free blocks. */
        void beginTrial(int freeBlocks) {
            trialUsed = current == NONE ? BLOCK_UNITS : flash.usedOf(current);
            trialNodes = flash.countOf(current);
            trialFree = freeBlocks;
        }

        /** Whether a node of so many units has room behind those of the trial so far. */
        boolean takesInTrial(int units) {
            if (!fits(trialUsed, trialNodes, units)) {
                if (trialFree <= 0) {
                    return false;
                }
                trialFree--;
                trialUsed = 1;
                trialNodes = 0;
            }
            trialUsed += units;
            trialNodes++;
            return true;
        }

        /** Writes a node; false if the power went. */
        boolean put(Node source) {
            boolean goesIn = current != NONE
                    && fits(flash.usedOf(current), flash.countOf(current), source.units);
            return (goesIn || goOn()) && flash.append(current, source);
        }

        private boolean goOn() {
            if (current != NONE) {
                summary.becomeSummary(flash.countOf(current));
                if (!flash.append(current, summary)) {
                    return false;
                }
                addClosed(current);
            }
            current = takeFree();
            return current != NONE;
        }

        boolean freeClosed(int block) {
            if (!flash.erase(block)) {
                return false;
            }
            dropClosed(block);
            addFree(block);
            return true;
        }

        void restart() {
            current = NONE;
            freeCount = 0;
            closedCount = 0;
            for (int block = 0; block < BLOCKS; block++) {
                boolean fewer = current == NONE || flash.usedOf(block) < flash.usedOf(current);
                if (fewer && canGoOn(block)) {
                    current = block;
                }
            }
            for (int block = 0; block < BLOCKS; block++) {
                if (flash.usedOf(block) == 1) {
                    addFree(block);
                } else if (flash.usedOf(block) > 1 && block != current) {
                    addClosed(block);
                }
            }
        }

        private boolean canGoOn(int block) {
            int count = flash.countOf(block);
            for (int place = 0; place < count; place++) {
                Node node = flash.at(block, place);
                if (node.kind == SUMMARY || !node.isWhole()) {
                    return false;
                }
            }
            return count > 0 && fits(flash.usedOf(block), count, 2);
        }

        /** Only a loss of power leaves blocks without a marker; false if the power went. */
        boolean eraseBroken() {
            for (int block = 0; block < BLOCKS; block++) {
                if (flash.usedOf(block) == 0) {
                    if (!flash.erase(block)) {
                        return false;
                    }
                    addFree(block);
                }
            }
            return true;
        }
    }

    /** A file or a directory that is there. */
    private static final class Item {
        /** Of a directory the targets by names, of a file its bytes. */
        private final int[] cells = new int[LAST_NAME + 1];
        private int number;
        private boolean directory;
        private int version;
        private int linkCount;
        private int nameCount;
        private int size;
        private boolean reached;

        void begin(int newNumber, boolean isDirectory) {
            number = newNumber;
            directory = isDirectory;
            version = 0;
            linkCount = 0;
            nameCount = 0;
            size = 0;
            for (int i = 0; i < cells.length; i++) {
                cells[i] = 0;
            }
        }

        int cell(int index) {
            return index >= 0 && index < cells.length ? cells[index] : 0;
        }

        void setCell(int index, int value) {
            if (index >= 0 && index < cells.length) {
                cells[index] = value;
            }
        }

        void lay(Node data) {
            size = data.size;
            for (int place = 0; place < LONGEST; place++) {
                if (data.settles(place)) {
                    setCell(place, data.byteFor(place));
                }
            }
            version = data.version;
        }

        /** The name that has so many lower ones ahead of it. */
        int nameBehind(int count) {
            int ahead = 0;
            for (int name = 1; name <= LAST_NAME; name++) {
                if (cell(name) != 0) {
                    if (ahead == count) {
                        return name;
                    }
                    ahead++;
                }
            }
            return NONE;
        }
    }

    /** What is kept in memory of the files and directories. */
    private static final class Tree {
        /** Each number that is there, but the root, has a node of its own that names it. */
        private static final int MOST = BLOCKS * PLACES + 1;

        private final Item[] items = new Item[MOST];
        private final Item[] waiting = new Item[MOST];
        private int count;
        private int nextNumber;

        Tree() {
            empty();
        }

        private void empty() {
            count = 0;
            nextNumber = ROOT;
            add(ROOT, true);
        }

        private Item item(int index) {
            return index >= 0 && index < count && index < MOST ? items[index] : null;
        }

        Item find(int number) {
            for (int i = 0; i < count; i++) {
                Item item = item(i);
                if (item != null && item.number == number) {
                    return item;
                }
            }
            return null;
        }

        boolean holds(int number, boolean asDirectory) {
            Item item = find(number);
            return item != null && item.directory == asDirectory;
        }

        Item add(int number, boolean asDirectory) {
            Item item = count >= 0 && count < MOST ? items[count] : null;
            if (item == null) {
                item = new Item();
            }
            if (count >= 0 && count < MOST) {
                items[count] = item;
                count++;
            }
            item.begin(number, asDirectory);
            nextNumber = Math.max(nextNumber, number + 1);
            return item;
        }

        private void drop(Item gone) {
            int last = count - 1;
            for (int i = 0; i < last && last < MOST; i++) {
                if (items[i] == gone) {
                    items[i] = items[last];
                    items[last] = gone;
                }
            }
            count = Math.max(last, 0);
        }

        /** Gives a name to an item, or to none if that is null. */
        void assign(Item home, int name, Item item) {
            Item before = find(home.cell(name));
            home.setCell(name, item == null ? 0 : item.number);
            if (item != null) {
                item.linkCount++;
                home.nameCount++;
            }
            if (before != null) {
                before.linkCount--;
                home.nameCount--;
                if (before.linkCount == 0) {
                    drop(before);
                }
            }
        }

        /** Whether one directory is the other, or above it. */
        boolean leadsTo(Item high, Item low) {
            for (int i = 0; i < count; i++) {
                Item item = item(i);
                if (item != null) {
                    item.reached = false;
                }
            }
            int found = reach(high, 0);
            for (int i = 0; i < found && i < MOST; i++) {
                Item home = waiting[i];
                for (int name = 1; home != null && name <= LAST_NAME; name++) {
                    if (home.cell(name) != 0) {
                        found = reach(find(home.cell(name)), found);
                    }
                }
            }
            return low.reached;
        }

        private int reach(Item item, int found) {
            if (item == null || !item.directory || item.reached || found < 0 || found >= MOST) {
                return found;
            }
            item.reached = true;
            waiting[found] = item;
            return found + 1;
        }

        /** Begins anew with what the whole nodes tell. */
        void restart(Flash flash) {
            empty();
            // Those that are found come behind the ones that are being read.
            for (int i = 0; i < count && i < MOST; i++) {
                Item item = item(i);
                if (item != null && item.directory) {
                    readNames(item, flash);
                }
            }
            for (int i = 0; i < count; i++) {
                Item item = item(i);
                if (item != null && !item.directory) {
                    readContent(item, flash);
                }
            }
            for (int i = 0; i < BLOCKS * PLACES; i++) {
                Node node = flash.row(i);
                if (node.isWhole()) {
                    nextNumber = Math.max(nextNumber, Math.max(node.number, node.target) + 1);
                }
            }
        }

        private void readNames(Item home, Flash flash) {
            for (int i = 0; i < BLOCKS * PLACES; i++) {
                Node node = flash.row(i);
                if (node.tells(NAME, home.number)) {
                    home.version = Math.max(home.version, node.version);
                    if (node.target != 0
                            && flash.newest(NAME, home.number, node.spot, ANY_VERSION) == node) {
                        Item named = find(node.target);
                        assign(home, node.spot, named == null ? add(node.target, node.toDirectory) : named);
                    }
                }
            }
        }

        private void readContent(Item file, Flash flash) {
            int version = 0;
            for (int i = 0; i < BLOCKS * PLACES; i++) {
                Node data = flash.nextData(file.number, version);
                if (data == null) {
                    return;
                }
                file.lay(data);
                version = data.version;
            }
        }
    }

    /** Judges what is live, what is dead, and what a collection has to copy. */
    private static final class Judge {
        private final Flash flash;
        private final Tree tree;
        private final Node[] chosen = new Node[PLACES];
        private final Node nothing = new Node();
        private int chosenCount;

        Judge(Flash itsFlash, Tree itsTree) {
            flash = itsFlash;
            tree = itsTree;
        }

        private boolean isLive(Node node) {
            if (!tree.holds(node.number, node.kind == NAME)) {
                return false;
            }
            if (node.kind == NAME) {
                return node.target != 0
                        && flash.newest(NAME, node.number, node.spot, ANY_VERSION) == node;
            }
            if (flash.firstCopy(node) != node) {
                return false;
            }
            // A place behind the longest file is settled by each DATA node.
            return flash.newest(DATA, node.number, LONGEST, ANY_VERSION) == node
                    || (node.laid & ~flash.settledByNewer(node)) != 0;
        }

        private boolean isDead(Node node) {
            if (!node.isWhole()) {
                return true;
            }
            return node.kind != SUMMARY && !isLive(node);
        }

        int deadUnits(int block) {
            int units = 0;
            for (int place = 0; place < flash.countOf(block); place++) {
                Node node = flash.at(block, place);
                if (isDead(node)) {
                    units += node.present;
                }
            }
            return units;
        }

        /** The state of a closed block. */
        int dirtOf(int block) {
            int deadOnes = 0;
            int all = 0;
            for (int place = 0; place < flash.countOf(block); place++) {
                Node node = flash.at(block, place);
                if (node.kind != SUMMARY || !node.isWhole()) {
                    all += node.present;
                    deadOnes += isDead(node) ? node.present : 0;
                }
            }
            if (deadOnes == 0) {
                return CLEAN;
            }
            return deadOnes * 2 >= all ? VERY_DIRTY : DIRTY;
        }

        Node chosenAt(int index) {
            Node node = index >= 0 && index < chosenCount && index < PLACES ? chosen[index] : null;
            return node == null ? nothing : node;
        }

        /** Chooses the nodes of a block that a collection copies; tells how many. */
        int choose(int block) {
            int count = flash.countOf(block);
            // What is dead is settled ahead: the ones passed over stand there until the block is erased.
            for (int place = 0; place < count; place++) {
                Node node = flash.at(block, place);
                node.dead = isDead(node);
            }
            chosenCount = 0;
            for (int place = 0; place < count; place++) {
                lookAt(flash.at(block, place));
            }
            for (int place = 0; place < count; place++) {
                flash.at(block, place).passed = false;
            }
            return chosenCount;
        }

        private void lookAt(Node node) {
            if (!node.isWhole() || node.kind == SUMMARY) {
                return;
            }
            if (node.dead && !isMissed(node)) {
                node.passed = true;
            } else if (chosenCount >= 0 && chosenCount < PLACES) {
                chosen[chosenCount] = node;
                chosenCount++;
            }
        }

        /** Whether the nodes that are not passed over would tell something else without this one. */
        private boolean isMissed(Node node) {
            if (!tree.holds(node.number, node.kind == NAME)) {
                return false;
            }
            return node.kind == NAME ? isMissedAsName(node) : isMissedAsData(node);
        }

        private boolean isMissedAsName(Node node) {
            Node with = flash.newest(NAME, node.number, node.spot, ANY_VERSION);
            node.passed = true;
            Node without = flash.newest(NAME, node.number, node.spot, ANY_VERSION);
            node.passed = false;
            return targetOf(with) != targetOf(without);
        }

        private int targetOf(Node node) {
            return node == null ? 0 : node.target;
        }

        private boolean isMissedAsData(Node node) {
            node.passed = true;
            boolean copied = flash.firstCopy(node) != null;
            node.passed = false;
            if (copied) {
                return false;
            }
            long shown = node.settledPlaces() & ~flash.settledByNewer(node);
            for (int place = 0; place < LONGEST; place++) {
                if ((shown >>> place & 1) != 0) {
                    Node below = flash.newest(DATA, node.number, place, node.version);
                    int hidden = below == null ? 0 : below.byteFor(place);
                    if (hidden != node.byteFor(place)) {
                        return true;
                    }
                }
            }
            return false;
        }
    }
}
