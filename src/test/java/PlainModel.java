import java.util.ArrayList;
import java.util.Arrays;
import java.util.List;
import java.util.TreeSet;

/**
 * The document once more, written another way: a tree of nodes, and every call is tried on a copy of it that is
 * thrown away if the call throws. An answer is a number, or the term of what is thrown.
 */
final class PlainModel {
    private static final class Thrown extends RuntimeException {
        private static final long serialVersionUID = 1;
        final String term;

        Thrown(String term) {
            super(term, null, false, false);
            this.term = term;
        }
    }

    private static final class Node {
        final int inode;
        final int generation;
        final boolean isDirectory;
        final List<Integer> bytes = new ArrayList<>();
        final List<Integer> blocks = new ArrayList<>();

        Node(int inode, int generation, boolean isDirectory) {
            this.inode = inode;
            this.generation = generation;
            this.isDirectory = isDirectory;
        }

        Node copy() {
            Node copy = new Node(inode, generation, isDirectory);
            copy.bytes.addAll(bytes);
            copy.blocks.addAll(blocks);
            return copy;
        }

        int entryOf(int name) {
            for (int at = 0; isDirectory && at < bytes.size(); at += 2) {
                if (bytes.get(at) == name) {
                    return at;
                }
            }
            return -1;
        }
    }

    private static final class Tree {
        final Node[] nodes = new Node[12];
        final int[] generations = new int[12];
        final TreeSet<Integer> freeBlocks = new TreeSet<>();

        Tree copy() {
            Tree copy = new Tree();
            for (int k = 0; k < 12; k++) {
                copy.nodes[k] = nodes[k] == null ? null : nodes[k].copy();
                copy.generations[k] = generations[k];
            }
            copy.freeBlocks.addAll(freeBlocks);
            return copy;
        }

        Node grow(boolean isDirectory) {
            for (int k = 0; k < 12; k++) {
                if (nodes[k] == null) {
                    generations[k] = (generations[k] + 1) & 255;
                    nodes[k] = new Node(k, generations[k], isDirectory);
                    return nodes[k];
                }
            }
            throw new Thrown("Full");
        }

        void fell(Node node) {
            node.bytes.clear();
            fit(node);
            nodes[node.inode] = null;
        }

        void fit(Node node) {
            if (node.bytes.size() > (node.isDirectory ? 32 : 64)) {
                throw new Thrown("Full");
            }
            while (node.blocks.size() * 16 >= node.bytes.size() + 16) {
                freeBlocks.add(node.blocks.remove(node.blocks.size() - 1));
            }
            while (node.blocks.size() * 16 < node.bytes.size()) {
                if (freeBlocks.isEmpty()) {
                    throw new Thrown("Full");
                }
                node.blocks.add(freeBlocks.pollFirst());
            }
        }

        void size(Node node, int size) {
            while (node.bytes.size() > size) {
                node.bytes.remove(node.bytes.size() - 1);
            }
            while (node.bytes.size() < size) {
                node.bytes.add(0);
            }
            fit(node);
        }

        void enter(Node directory, int name, Node node) {
            directory.bytes.add(name);
            directory.bytes.add(node.inode);
            fit(directory);
        }

        void leave(Node directory, int name) {
            int at = directory.entryOf(name);
            int inode = directory.bytes.remove(directory.bytes.size() - 1);
            int last = directory.bytes.remove(directory.bytes.size() - 1);
            if (at < directory.bytes.size()) {
                directory.bytes.set(at, last);
                directory.bytes.set(at + 1, inode);
            }
            fit(directory);
        }

        int[] image() {
            int[] image = new int[640];
            for (int b = 0; b < 40; b++) {
                image[b / 8] |= freeBlocks.contains(b) ? 0 : 1 << b % 8;
            }
            for (int k = 0; k < 12; k++) {
                image[16 + 8 * k + 3] = generations[k];
                if (nodes[k] != null) {
                    draw(nodes[k], image);
                }
            }
            return image;
        }

        private static void draw(Node node, int[] image) {
            int start = 16 + 8 * node.inode;
            image[start] = node.isDirectory ? 2 : 1;
            image[start + 1] = node.bytes.size();
            image[start + 2] = 1;
            for (int k = 0; k < node.blocks.size(); k++) {
                image[start + 4 + k] = node.blocks.get(k);
            }
            for (int p = 0; p < node.bytes.size(); p++) {
                image[16 * node.blocks.get(p / 16) + p % 16] = node.bytes.get(p);
            }
        }
    }

    /** Inode, generation, mode, position. */
    private int[][] handles = new int[6][];
    private Tree state = new Tree();
    private Tree committed;
    private int cut;
    private int writes;
    private int offs;

    PlainModel() {
        for (int b = 9; b < 40; b++) {
            state.freeBlocks.add(b);
        }
        state.grow(true);
        committed = state.copy();
    }

    /** The call by its name in the document, a boolean being 1 or 0. */
    String call(String name, long... a) {
        Tree before = state.copy();
        int[][] handlesBefore = new int[6][];
        for (int h = 0; h < 6; h++) {
            handlesBefore[h] = handles[h] == null ? null : handles[h].clone();
        }
        try {
            return Long.toString(answer(name, a));
        } catch (Thrown thrown) {
            if (!name.equals("commit")) {
                state = before;
                handles = handlesBefore;
            }
            return thrown.term;
        }
    }

    private long answer(String name, long[] a) {
        int first = a.length > 0 ? (int) a[0] : 0;
        int second = a.length > 1 ? (int) a[1] : 0;
        switch (name) {
            case "directory": return directory(first);
            case "open": return open(first, second, a[2] == 1, a[3] == 1, a[4] == 1);
            case "close": return close(first);
            case "write": return write(first, a[1], (int) a[2]);
            case "read": return read(first, second);
            case "seek": return seek(first, second);
            case "next": return next(first);
            case "remove": return remove(first);
            case "rename": return rename(first, second);
            case "truncate": return truncate(first, second);
            case "stat": return stat(first, second);
            case "commit": return commit();
            case "cutPower": return cutPower(first);
            case "crash": return crash();
            case "block": return block(first, second, a[2] == 1);
            default: return count(first);
        }
    }

    private static void need(boolean holds, String term) {
        if (!holds) {
            throw new Thrown(term);
        }
    }

    private static int[] names(int path) {
        String digits = path == 0 ? "" : Integer.toHexString(path);
        digits = digits.length() % 2 == 0 ? digits : "0" + digits;
        int[] names = new int[digits.length() / 2];
        for (int k = 0; k < names.length; k++) {
            names[k] = Integer.parseInt(digits.substring(2 * k, 2 * k + 2), 16);
            need(names[k] != 0, "Bad");
        }
        return names;
    }

    private Node walk(int[] names, int length) {
        Node node = state.nodes[0];
        for (int k = 0; k < length && node != null; k++) {
            int at = node.entryOf(names[k]);
            node = at < 0 ? null : state.nodes[node.bytes.get(at + 1)];
        }
        return node;
    }

    private Node above(int[] names) {
        Node node = walk(names, Math.max(0, names.length - 1));
        need(node != null && node.isDirectory, "Missing");
        return node;
    }

    private static int last(int[] names) {
        return names[names.length - 1];
    }

    private long directory(int path) {
        int[] names = names(path);
        Node above = above(names);
        need(walk(names, names.length) == null, "Refused");
        Node made = state.grow(true);
        state.enter(above, last(names), made);
        return made.inode;
    }

    private long open(int path, int mode, boolean create, boolean append, boolean empty) {
        int[] names = names(path);
        need(mode >= 1 && mode <= 4, "Bad");
        Node node = walk(names, names.length);
        boolean changes = mode == 2 || mode == 3;
        if (node == null) {
            need(create && changes, "Missing");
            Node above = above(names);
            node = state.grow(false);
            state.enter(above, last(names), node);
        }
        need(node.isDirectory == (mode == 4), "Refused");
        int handle = Arrays.asList(handles).indexOf(null);
        need(handle >= 0, "Full");
        if (empty && changes) {
            state.size(node, 0);
        }
        handles[handle] = new int[] {node.inode, node.generation, mode, append && mode < 4 ? node.bytes.size() : 0};
        return handle;
    }

    private boolean isStale(int[] handle) {
        Node node = state.nodes[handle[0]];
        return node == null || node.generation != handle[1] || node.isDirectory != (handle[2] == 4);
    }

    private int[] handle(int number, int... modes) {
        int[] handle = handles[number];
        need(handle != null && !isStale(handle), "Refused");
        need(Arrays.stream(modes).anyMatch(mode -> mode == handle[2]), "Refused");
        return handle;
    }

    private static void range(int number, int most) {
        need(number >= 0 && number <= most, "Bad");
    }

    private long close(int handle) {
        range(handle, 5);
        need(handles[handle] != null, "Refused");
        handles[handle] = null;
        return 0;
    }

    private long write(int number, long bytes, int n) {
        range(number, 5);
        range(n, 8);
        int[] handle = handle(number, 2, 3);
        Node node = state.nodes[handle[0]];
        long rest = bytes;
        for (int k = 0; k < n; k++) {
            if (handle[3] >= node.bytes.size()) {
                state.size(node, handle[3] + 1);
            }
            node.bytes.set(handle[3]++, (int) (rest & 255));
            rest >>= 8;
        }
        return 0;
    }

    private long read(int number, int n) {
        range(number, 5);
        range(n, 8);
        int[] handle = handle(number, 1, 3);
        List<Integer> bytes = state.nodes[handle[0]].bytes;
        long answer = 0;
        for (long k = 0, unit = 1; k < n && handle[3] < bytes.size(); k++, unit *= 256) {
            answer += unit * bytes.get(handle[3]++);
        }
        return answer;
    }

    private long seek(int number, int p) {
        range(number, 5);
        range(p, 64);
        handle(number, 1, 2, 3)[3] = p;
        return 0;
    }

    private long next(int number) {
        range(number, 5);
        int[] handle = handle(number, 4);
        List<Integer> bytes = state.nodes[handle[0]].bytes;
        return 2 * handle[3] < bytes.size() ? bytes.get(2 * handle[3]++) : 0;
    }

    private long remove(int path) {
        int[] names = names(path);
        Node node = walk(names, names.length);
        need(node != null, "Missing");
        need(node.inode != 0 && !(node.isDirectory && node.bytes.size() > 0), "Refused");
        state.leave(above(names), last(names));
        state.fell(node);
        return 0;
    }

    private long rename(int from, int to) {
        int[] old = names(from);
        int[] names = names(to);
        Node node = walk(old, old.length);
        need(node != null, "Missing");
        Node above = above(names);
        need(from != 0 && to != 0, "Refused");
        need(names.length < old.length || !Arrays.equals(old, Arrays.copyOf(names, old.length)), "Refused");
        Node there = walk(names, names.length);
        need(there == null || !there.isDirectory && !node.isDirectory, "Refused");
        state.leave(above(old), last(old));
        if (there == null) {
            state.enter(above, last(names), node);
        } else {
            above.bytes.set(above.entryOf(last(names)) + 1, node.inode);
            state.fell(there);
        }
        return 0;
    }

    private long truncate(int path, int n) {
        int[] names = names(path);
        range(n, 64);
        Node node = walk(names, names.length);
        need(node != null, "Missing");
        need(!node.isDirectory, "Refused");
        state.size(node, n);
        return 0;
    }

    private long stat(int path, int what) {
        int[] names = names(path);
        range(what, 4);
        Node node = walk(names, names.length);
        need(node != null, "Missing");
        int entries = node.isDirectory ? node.bytes.size() / 2 : 0;
        return new int[] {node.isDirectory ? 2 : 1, node.bytes.size(), node.inode, node.generation, entries}[what];
    }

    private int differing() {
        int[] one = state.image();
        int[] other = committed.image();
        int differing = 0;
        for (int b = 0; b < 40; b++) {
            differing += Arrays.equals(one, 16 * b, 16 * b + 16, other, 16 * b, 16 * b + 16) ? 0 : 1;
        }
        return differing;
    }

    /** Write by write, as the disk would see them. */
    private long commit() {
        int differing = differing();
        int all = differing == 0 ? 0 : 2 * differing + 1;
        for (int write = 1; write <= all; write++) {
            if (cut == 1) {
                cut = 0;
                committed = write <= differing + 1 ? committed : state;
                crash();
                throw new Thrown("Refused");
            }
            cut = Math.max(0, cut - 1);
            writes++;
        }
        committed = state.copy();
        return all;
    }

    private long cutPower(int n) {
        range(n, 100);
        cut = n;
        return 0;
    }

    private long crash() {
        state = committed.copy();
        Arrays.fill(handles, null);
        offs++;
        return 0;
    }

    private long block(int b, int i, boolean ofCommitted) {
        range(b, 39);
        range(i, 15);
        return (ofCommitted ? committed : state).image()[16 * b + i];
    }

    private long count(int what) {
        switch (what) {
            case 0: return state.freeBlocks.size();
            case 1: return Arrays.stream(state.nodes).filter(node -> node == null).count();
            case 2: return Arrays.stream(handles).filter(handle -> handle != null).count();
            case 3: return differing();
            case 4: return writes;
            case 5: return offs;
            case 6: return Arrays.stream(handles).filter(handle -> handle != null && isStale(handle)).count();
            default: return -1;
        }
    }

    int[] image(boolean ofCommitted) {
        return (ofCommitted ? committed : state).image();
    }
}
