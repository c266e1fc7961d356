/** What many cases begin with. */
final class Given {
    static final int[] NO_HANDLES = {-1, 6, Integer.MIN_VALUE, Integer.MAX_VALUE};
    static final int[] NO_LENGTHS = {-1, 9, Integer.MIN_VALUE, Integer.MAX_VALUE};
    static final int[] NO_SIZES = {-1, 65, Integer.MIN_VALUE, Integer.MAX_VALUE};
    static final int[] NO_PATHS = {
        0x0100, 0x010000, 0x010200, 0x01000000, 0x01020000, 0x01000200, 0x01020300,
        0x010002, 0x01000002, 0x01000203, 0x01020003, 0x80000000, 0xFFFFFF00, 0xFF00FFFF, 0xFF0000FF,
    };
    static final String ZEROS = "00000000000000000000000000000000";

    private Given() {
    }

    /** The file 1 with handle 0, which reads and writes. */
    static JournaledFiles openFile() {
        JournaledFiles x = new JournaledFiles();
        x.open(1, 3, true, false, false);
        return x;
    }

    /** The same with as many bytes in it, 1, 2, 3 and so on; handle 0 stands at 0. */
    static JournaledFiles openFile(int size) {
        JournaledFiles x = openFile();
        for (int p = 0; p < size; p++) {
            x.write(0, p + 1, 1);
        }
        x.seek(0, 0);
        return x;
    }

    /** A file of that size, all 0; no handle stays open for it. */
    static void file(JournaledFiles x, int path, int size) {
        int handle = x.open(path, 2, true, false, false);
        x.close(handle);
        x.truncate(path, size);
    }

    static void files(JournaledFiles x, int first, int last) {
        for (int name = first; name <= last; name++) {
            file(x, name, 0);
        }
    }

    /** Files 1 to 7 of 64 bytes and 8 of 32: no block is free, 3 inodes are, the root's block has no place left. */
    static JournaledFiles fullDisk() {
        JournaledFiles x = new JournaledFiles();
        fillDisk(x);
        return x;
    }

    static void fillDisk(JournaledFiles x) {
        for (int name = 1; name <= 7; name++) {
            file(x, name, 64);
        }
        file(x, 8, 32);
    }

    /** The same with one free block. */
    static JournaledFiles almostFullDisk() {
        JournaledFiles x = fullDisk();
        x.truncate(8, 16);
        return x;
    }

    /** The directory 1 is empty, files 2 to 9 take all blocks, and the root's second block has places left. */
    static JournaledFiles fullDiskWithADirectory() {
        JournaledFiles x = new JournaledFiles();
        x.directory(1);
        for (int name = 2; name <= 8; name++) {
            file(x, name, 64);
        }
        file(x, 9, 16);
        return x;
    }

    /** Directories 1 to 11: no inode is free. */
    static JournaledFiles noFreeInode() {
        JournaledFiles x = new JournaledFiles();
        for (int name = 1; name <= 11; name++) {
            x.directory(name);
        }
        return x;
    }

    /** Handles 0 to 5 list the root. */
    static void useAllHandles(JournaledFiles x) {
        for (int handle = 0; handle < 6; handle++) {
            x.open(0, 4, false, false, false);
        }
    }

    /** The inode's eight bytes in hexadecimal digits. */
    static String inode(JournaledFiles x, int inode) {
        StringBuilder text = new StringBuilder();
        for (int i = 0; i < 8; i++) {
            text.append(String.format("%02x", x.block(1 + inode / 2, inode % 2 * 8 + i, false)));
        }
        return text.toString();
    }
}
