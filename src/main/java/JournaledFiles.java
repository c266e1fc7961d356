import java.util.NoSuchElementException;

/** Files and directories in the blocks of a journaled disk whose power may fail at any write. */
public final class JournaledFiles {
    private static final int NONE = -1;

    private static final int BLOCKS = 40;
    private static final int BLOCK_BYTES = 16;
    private static final int DISK_BYTES = BLOCKS * BLOCK_BYTES;
    private static final int FIRST_DATA_BLOCK = 9;

    private static final int INODES = 12;
    private static final int INODE_BYTES = 8;
    private static final int FIRST_INODE_BYTE = BLOCK_BYTES;
    private static final int ROOT = 0;

    private static final int FREE = 0;
    private static final int FILE = 1;
    private static final int DIRECTORY = 2;

    private static final int MOST_FILE_BYTES = 64;
    private static final int MOST_ENTRIES = 16;
    private static final int ENTRY_BYTES = 2;

    private static final int HANDLES = 6;
    private static final int READS = 1;
    private static final int WRITES = 2;
    private static final int READS_AND_WRITES = 3;
    private static final int LISTS = 4;

    private static final int NAME_BITS = 8;
    private static final int NAME_MASK = 255;
    private static final int MOST_NAMES = 4;

    private static final int MOST_CALL_BYTES = 8;
    private static final int LATEST_CUT = 100;

    private final Disk disk;
    private final Inodes inodes;
    private final Handle[] handles;
    /** The cut comes at this write from now on; 0 when none is set. */
    private int writesToCut;
    private int writesDone;
    private int timesOff;

    public JournaledFiles() {
        disk = new Disk();
        inodes = new Inodes(disk);
        handles = new Handle[HANDLES];
        for (int h = 0; h < HANDLES; h++) {
            handles[h] = new Handle();
        }
        inodes.occupy(ROOT, DIRECTORY);
        disk.keep();
    }

    public int directory(int path) throws IllegalArgumentException, NoSuchElementException,
            IllegalStateException, UnsupportedOperationException {
        checkPath(path);
        if (inodeAt(path) != NONE) {
            throw new IllegalStateException("something is there");
        }
        int parent = parentNeeded(path);
        checkRoomForNew(parent);
        return makeNew(parent, path & NAME_MASK, DIRECTORY);
    }

    public int open(int path, int mode, boolean create, boolean append, boolean empty)
            throws IllegalArgumentException, NoSuchElementException, IllegalStateException,
            UnsupportedOperationException {
        checkPath(path);
        checkRange(mode, READS, LISTS);
        int inode = inodeAt(path);
        if (inode == NONE) {
            if (!create || !writesBy(mode)) {
                throw new NoSuchElementException("nothing is there");
            }
            int parent = parentNeeded(path);
            int handle = closedHandleNeeded();
            checkRoomForNew(parent);
            inode = makeNew(parent, path & NAME_MASK, FILE);
            return openHandle(handle, inode, mode, 0);
        }
        if (inodes.kind(inode) != kindFor(mode)) {
            throw new IllegalStateException("of the other kind");
        }
        int handle = closedHandleNeeded();
        if (empty && writesBy(mode)) {
            inodes.resize(inode, 0);
        }
        return openHandle(handle, inode, mode, append && mode != LISTS ? inodes.size(inode) : 0);
    }

    public void close(int handle) throws IllegalArgumentException, IllegalStateException {
        checkRange(handle, 0, HANDLES - 1);
        Handle closing = handles[handle];
        if (!closing.isOpen) {
            throw new IllegalStateException("not open");
        }
        closing.isOpen = false;
    }

    public void write(int handle, long bytes, int n) throws IllegalArgumentException,
            IllegalStateException, UnsupportedOperationException {
        checkRange(handle, 0, HANDLES - 1);
        checkRange(n, 0, MOST_CALL_BYTES);
        Handle writer = usableHandle(handle);
        if (!writesBy(writer.mode)) {
            throw new IllegalStateException("not a mode that writes");
        }
        if (n == 0) {
            return;
        }
        int end = writer.position + n;
        int size = Math.max(inodes.size(writer.inode), end);
        checkRoomForSize(writer.inode, size);
        inodes.resize(writer.inode, size);
        for (int k = 0; k < n; k++) {
            inodes.putByte(writer.inode, writer.position + k, (int) (bytes >>> (8 * k)) & 255);
        }
        writer.position = end;
    }

    public long read(int handle, int n) throws IllegalArgumentException, IllegalStateException {
        checkRange(handle, 0, HANDLES - 1);
        checkRange(n, 0, MOST_CALL_BYTES);
        Handle reader = usableHandle(handle);
        if (!readsBy(reader.mode)) {
            throw new IllegalStateException("not a mode that reads");
        }
        int there = Math.max(0, inodes.size(reader.inode) - reader.position);
        int taken = Math.min(n, there);
        long bytes = 0;
        for (int k = 0; k < taken; k++) {
            bytes |= (long) inodes.byteOf(reader.inode, reader.position + k) << (8 * k);
        }
        reader.position += taken;
        return bytes;
    }

    public void seek(int handle, int p) throws IllegalArgumentException, IllegalStateException {
        checkRange(handle, 0, HANDLES - 1);
        checkRange(p, 0, MOST_FILE_BYTES);
        Handle seeker = usableHandle(handle);
        if (seeker.mode == LISTS) {
            throw new IllegalStateException("a directory's handle");
        }
        seeker.position = p;
    }

    public int next(int handle) throws IllegalArgumentException, IllegalStateException {
        checkRange(handle, 0, HANDLES - 1);
        Handle lister = usableHandle(handle);
        if (lister.mode != LISTS) {
            throw new IllegalStateException("a file's handle");
        }
        if (lister.position >= inodes.entries(lister.inode)) {
            return 0;
        }
        int name = inodes.entryName(lister.inode, lister.position);
        lister.position++;
        return name;
    }

    public void remove(int path) throws IllegalArgumentException, NoSuchElementException,
            IllegalStateException {
        checkPath(path);
        int inode = inodeNeeded(path);
        if (inode == ROOT) {
            throw new IllegalStateException("the root");
        }
        if (inodes.entries(inode) > 0) {
            throw new IllegalStateException("not empty");
        }
        inodes.dropEntry(inodeAt(parentPath(path)), path & NAME_MASK);
        inodes.vacate(inode);
    }

    public void rename(int from, int to) throws IllegalArgumentException, NoSuchElementException,
            IllegalStateException, UnsupportedOperationException {
        checkPath(from);
        checkPath(to);
        int moved = inodeNeeded(from);
        int replaced = inodeAt(to);
        int target = parentNeeded(to);
        checkMove(from, to, moved, replaced);
        int source = inodeAt(parentPath(from));
        if (replaced == NONE && !hasRoomAfterLeaving(source, target)) {
            throw new UnsupportedOperationException("no room for the entry");
        }
        inodes.dropEntry(source, from & NAME_MASK);
        if (replaced == NONE) {
            inodes.addEntry(target, to & NAME_MASK, moved);
        } else {
            inodes.redirectEntry(target, to & NAME_MASK, moved);
            inodes.vacate(replaced);
        }
    }

    public void truncate(int path, int n) throws IllegalArgumentException, NoSuchElementException,
            IllegalStateException, UnsupportedOperationException {
        checkPath(path);
        checkRange(n, 0, MOST_FILE_BYTES);
        int inode = inodeNeeded(path);
        if (inodes.kind(inode) != FILE) {
            throw new IllegalStateException("no file");
        }
        checkRoomForSize(inode, n);
        inodes.resize(inode, n);
    }

    public int stat(int path, int what) throws IllegalArgumentException, NoSuchElementException {
        checkPath(path);
        checkRange(what, 0, 4);
        int inode = inodeNeeded(path);
        switch (what) {
            case 0:
                return inodes.kind(inode);
            case 1:
                return inodes.size(inode);
            case 2:
                return inode;
            case 3:
                return inodes.generation(inode);
            default:
                return inodes.entries(inode);
        }
    }

    public int commit() throws IllegalStateException {
        int differing = disk.differingBlocks();
        int journalWrites = differing == 0 ? 0 : differing + 1;
        int allWrites = journalWrites + differing;
        if (writesToCut > 0 && writesToCut <= allWrites) {
            boolean journalIsWhole = writesToCut > journalWrites;
            writesDone += writesToCut - 1;
            writesToCut = 0;
            if (journalIsWhole) {
                disk.keep();
            }
            losePower();
            throw new IllegalStateException("power failed");
        }
        if (writesToCut > 0) {
            writesToCut -= allWrites;
        }
        writesDone += allWrites;
        disk.keep();
        return allWrites;
    }

    public void cutPower(int n) throws IllegalArgumentException {
        checkRange(n, 0, LATEST_CUT);
        writesToCut = n;
    }

    public void crash() {
        losePower();
    }

    public int block(int b, int i, boolean committed) throws IllegalArgumentException {
        checkRange(b, 0, BLOCKS - 1);
        checkRange(i, 0, BLOCK_BYTES - 1);
        int at = b * BLOCK_BYTES + i;
        return committed ? disk.getKept(at) : disk.get(at);
    }

    public int count(int what) {
        switch (what) {
            case 0:
                return disk.freeBlocks();
            case 1:
                return inodes.freeInodes();
            case 2:
                return openHandles();
            case 3:
                return disk.differingBlocks();
            case 4:
                return writesDone;
            case 5:
                return timesOff;
            case 6:
                return staleHandles();
            default:
                return -1;
        }
    }

    private static void checkRange(int value, int least, int most) {
        if (value < least || value > most) {
            throw new IllegalArgumentException("out of range");
        }
    }

    private static void checkPath(int path) {
        int rest = path;
        for (int k = 0; k < MOST_NAMES && rest != 0; k++) {
            if ((rest & NAME_MASK) == 0) {
                throw new IllegalArgumentException("00 behind a name");
            }
            rest >>>= NAME_BITS;
        }
    }

    private static int parentPath(int path) {
        return path >>> NAME_BITS;
    }

    private static boolean isAtOrBelow(int path, int above) {
        int prefix = path;
        for (int k = 0; k < MOST_NAMES; k++) {
            if (prefix == above) {
                return true;
            }
            prefix = parentPath(prefix);
        }
        return above == 0;
    }

    private int inodeAt(int path) {
        int inode = ROOT;
        for (int shift = NAME_BITS * (MOST_NAMES - 1); shift >= 0; shift -= NAME_BITS) {
            int name = (path >>> shift) & NAME_MASK;
            if (name != 0) {
                int entry = inodes.findEntry(inode, name);
                if (entry == NONE) {
                    return NONE;
                }
                inode = inodes.entryInode(inode, entry);
            }
        }
        return inode;
    }

    private int inodeNeeded(int path) {
        int inode = inodeAt(path);
        if (inode == NONE) {
            throw new NoSuchElementException("the path leads nowhere");
        }
        return inode;
    }

    /** The root counts as its own parent, so that a call on it is refused and not missing. */
    private int parentNeeded(int path) {
        int parent = inodeAt(parentPath(path));
        if (parent == NONE || inodes.kind(parent) != DIRECTORY) {
            throw new NoSuchElementException("no directory to be in");
        }
        return parent;
    }

    private void checkRoomForNew(int parent) {
        if (inodes.leastFree() == NONE || !inodes.hasRoomForEntry(parent)) {
            throw new UnsupportedOperationException("no inode, entry or block is free");
        }
    }

    private void checkRoomForSize(int inode, int size) {
        if (size > MOST_FILE_BYTES || !inodes.hasRoomForSize(inode, size)) {
            throw new UnsupportedOperationException("above 64 bytes, or no block is free");
        }
    }

    private int makeNew(int parent, int name, int kind) {
        int inode = inodes.leastFree();
        inodes.occupy(inode, kind);
        inodes.addEntry(parent, name, inode);
        return inode;
    }

    private void checkMove(int from, int to, int moved, int replaced) {
        if (from == 0 || to == 0 || isAtOrBelow(to, from)) {
            throw new IllegalStateException("the root, or onto or below itself");
        }
        if (replaced == NONE) {
            return;
        }
        if (inodes.kind(moved) != FILE || inodes.kind(replaced) != FILE) {
            throw new IllegalStateException("only a file takes a file's place");
        }
    }

    /** The entry leaves its directory first, so the block that this frees may serve the new entry. */
    private boolean hasRoomAfterLeaving(int source, int target) {
        int left = inodes.entries(source) - 1;
        int before = source == target ? left : inodes.entries(target);
        if (before >= MOST_ENTRIES) {
            return false;
        }
        int freed = Inodes.startsBlock(left) ? 1 : 0;
        return !Inodes.startsBlock(before) || disk.freeBlocks() + freed > 0;
    }

    private static boolean writesBy(int mode) {
        return mode == WRITES || mode == READS_AND_WRITES;
    }

    private static boolean readsBy(int mode) {
        return mode == READS || mode == READS_AND_WRITES;
    }

    private static int kindFor(int mode) {
        return mode == LISTS ? DIRECTORY : FILE;
    }

    private int closedHandleNeeded() {
        for (int h = 0; h < HANDLES; h++) {
            if (!handles[h].isOpen) {
                return h;
            }
        }
        throw new UnsupportedOperationException("no handle is closed");
    }

    private int openHandle(int handle, int inode, int mode, int position) {
        Handle opened = handles[handle];
        opened.isOpen = true;
        opened.inode = inode;
        opened.generation = inodes.generation(inode);
        opened.mode = mode;
        opened.position = position;
        return handle;
    }

    private Handle usableHandle(int handle) {
        Handle used = handles[handle];
        if (!used.isOpen || isStale(used)) {
            throw new IllegalStateException("not open, or stale");
        }
        return used;
    }

    /** A free inode is of neither kind that a mode needs, so its kind tells that as well. */
    private boolean isStale(Handle handle) {
        return inodes.kind(handle.inode) != kindFor(handle.mode)
                || inodes.generation(handle.inode) != handle.generation;
    }

    private int openHandles() {
        int open = 0;
        for (int h = 0; h < HANDLES; h++) {
            if (handles[h].isOpen) {
                open++;
            }
        }
        return open;
    }

    private int staleHandles() {
        int stale = 0;
        for (int h = 0; h < HANDLES; h++) {
            if (handles[h].isOpen && isStale(handles[h])) {
                stale++;
            }
        }
        return stale;
    }

    private void losePower() {
        disk.goBack();
        for (int h = 0; h < HANDLES; h++) {
            handles[h].isOpen = false;
        }
        timesOff++;
    }

    private static final class Handle {
        boolean isOpen;
        int inode;
        int generation;
        int mode;
        int position;
    }

    /** The blocks twice: as the calls left them, and as they would be found after starting anew. */
    private static final class Disk {
        private final int[] state;
        private final int[] committed;

        Disk() {
            state = new int[DISK_BYTES];
            committed = new int[DISK_BYTES];
            for (int b = 0; b < FIRST_DATA_BLOCK; b++) {
                mark(b, true);
            }
        }

        int get(int at) {
            return at >= 0 && at < DISK_BYTES ? state[at] : 0;
        }

        int getKept(int at) {
            return at >= 0 && at < DISK_BYTES ? committed[at] : 0;
        }

        void put(int at, int value) {
            if (at >= 0 && at < DISK_BYTES) {
                state[at] = value;
            }
        }

        /** The map is block 0, so its byte number is the place on the disk, too. */
        private boolean isUsed(int b) {
            return (get(b / 8) >> (b % 8) & 1) == 1;
        }

        private void mark(int b, boolean used) {
            int bit = 1 << (b % 8);
            int others = get(b / 8) & ~bit;
            put(b / 8, used ? others | bit : others);
        }

        int freeBlocks() {
            int free = 0;
            for (int b = FIRST_DATA_BLOCK; b < BLOCKS; b++) {
                if (!isUsed(b)) {
                    free++;
                }
            }
            return free;
        }

        /** Free blocks are all 0 already, so a new one needs no clearing; 0 if none is free. */
        int takeBlock() {
            for (int b = FIRST_DATA_BLOCK; b < BLOCKS; b++) {
                if (!isUsed(b)) {
                    mark(b, true);
                    return b;
                }
            }
            return 0;
        }

        /** The block has to be all 0 by now, since takeBlock hands it out as it is. */
        void giveBack(int b) {
            mark(b, false);
        }

        int differingBlocks() {
            int differing = 0;
            for (int b = 0; b < BLOCKS; b++) {
                if (differs(b)) {
                    differing++;
                }
            }
            return differing;
        }

        private boolean differs(int b) {
            for (int i = 0; i < BLOCK_BYTES; i++) {
                int at = b * BLOCK_BYTES + i;
                if (get(at) != getKept(at)) {
                    return true;
                }
            }
            return false;
        }

        void keep() {
            System.arraycopy(state, 0, committed, 0, DISK_BYTES);
        }

        void goBack() {
            System.arraycopy(committed, 0, state, 0, DISK_BYTES);
        }
    }

    /** What the blocks mean: inodes, the bytes of files, and the entries of directories. */
    private static final class Inodes {
        private static final int KIND = 0;
        private static final int SIZE = 1;
        private static final int LINKS = 2;
        private static final int GENERATION = 3;
        private static final int FIRST_POINTER = 4;

        private final Disk disk;

        Inodes(Disk disk) {
            this.disk = disk;
        }

        private int field(int inode, int field) {
            return disk.get(FIRST_INODE_BYTE + inode * INODE_BYTES + field);
        }

        private void putField(int inode, int field, int value) {
            disk.put(FIRST_INODE_BYTE + inode * INODE_BYTES + field, value);
        }

        int kind(int inode) {
            return field(inode, KIND);
        }

        int size(int inode) {
            return field(inode, SIZE);
        }

        int generation(int inode) {
            return field(inode, GENERATION);
        }

        int entries(int inode) {
            return kind(inode) == DIRECTORY ? size(inode) / ENTRY_BYTES : 0;
        }

        int freeInodes() {
            int free = 0;
            for (int inode = 0; inode < INODES; inode++) {
                if (kind(inode) == FREE) {
                    free++;
                }
            }
            return free;
        }

        int leastFree() {
            for (int inode = 0; inode < INODES; inode++) {
                if (kind(inode) == FREE) {
                    return inode;
                }
            }
            return NONE;
        }

        void occupy(int inode, int kind) {
            putField(inode, KIND, kind);
            putField(inode, LINKS, 1);
            putField(inode, GENERATION, (generation(inode) + 1) % 256);
        }

        void vacate(int inode) {
            resize(inode, 0);
            putField(inode, KIND, FREE);
            putField(inode, LINKS, 0);
        }

        private int placeOf(int inode, int p) {
            int pointer = FIRST_INODE_BYTE + inode * INODE_BYTES + FIRST_POINTER + p / BLOCK_BYTES;
            return disk.get(pointer) * BLOCK_BYTES + p % BLOCK_BYTES;
        }

        int byteOf(int inode, int p) {
            return disk.get(placeOf(inode, p));
        }

        void putByte(int inode, int p, int value) {
            disk.put(placeOf(inode, p), value);
        }

        private static int blocksFor(int size) {
            return (size + BLOCK_BYTES - 1) / BLOCK_BYTES;
        }

        boolean hasRoomForSize(int inode, int size) {
            return blocksFor(size) - blocksFor(size(inode)) <= disk.freeBlocks();
        }

        /** What is cut off becomes 0, since freed blocks and what lies behind the size have to be 0. */
        void resize(int inode, int size) {
            int had = size(inode);
            for (int p = size; p < had; p++) {
                putByte(inode, p, 0);
            }
            for (int k = blocksFor(size); k < blocksFor(had); k++) {
                disk.giveBack(field(inode, FIRST_POINTER + k));
                putField(inode, FIRST_POINTER + k, 0);
            }
            for (int k = blocksFor(had); k < blocksFor(size); k++) {
                putField(inode, FIRST_POINTER + k, disk.takeBlock());
            }
            putField(inode, SIZE, size);
        }

        int entryName(int directory, int entry) {
            return byteOf(directory, entry * ENTRY_BYTES);
        }

        int entryInode(int directory, int entry) {
            return byteOf(directory, entry * ENTRY_BYTES + 1);
        }

        private void putEntry(int directory, int entry, int name, int inode) {
            putByte(directory, entry * ENTRY_BYTES, name);
            putByte(directory, entry * ENTRY_BYTES + 1, inode);
        }

        int findEntry(int directory, int name) {
            int entries = entries(directory);
            for (int entry = 0; entry < entries; entry++) {
                if (byteOf(directory, entry * ENTRY_BYTES) == name) {
                    return entry;
                }
            }
            return NONE;
        }

        static boolean startsBlock(int entry) {
            return entry * ENTRY_BYTES % BLOCK_BYTES == 0;
        }

        boolean hasRoomForEntry(int directory) {
            int entries = entries(directory);
            return entries < MOST_ENTRIES && (!startsBlock(entries) || disk.freeBlocks() > 0);
        }

        void addEntry(int directory, int name, int inode) {
            int entry = entries(directory);
            resize(directory, (entry + 1) * ENTRY_BYTES);
            putEntry(directory, entry, name, inode);
        }

        void redirectEntry(int directory, int name, int inode) {
            int entry = findEntry(directory, name);
            if (entry != NONE) {
                putEntry(directory, entry, name, inode);
            }
        }

        void dropEntry(int directory, int name) {
            int entry = findEntry(directory, name);
            if (entry == NONE) {
                return;
            }
            int last = entries(directory) - 1;
            putEntry(directory, entry, entryName(directory, last), entryInode(directory, last));
            resize(directory, last * ENTRY_BYTES);
        }
    }
}
