import java.util.ArrayList;
import java.util.Comparator;
import java.util.HashSet;
import java.util.List;
import java.util.Set;
import java.util.TreeMap;

/**
 * The document once more, as near to its words as can be: nothing about openness, load or bytes is
 * kept, all is worked out anew from the packets whenever it is asked.
 */
final class PlainTree implements Answers {
    private static final class Packet {
        final int id;
        final int length;

        Packet(int id, int length) {
            this.id = id;
            this.length = length;
        }
    }

    private static final class Clazz {
        int parent;
        int weight;
        int limit;
        int held;
        long tag;
        long rest;
        long time;
        long share;
        final List<Packet> packets = new ArrayList<>();

        Clazz copy() {
            Clazz made = new Clazz();
            made.parent = parent;
            made.weight = weight;
            made.limit = limit;
            made.held = held;
            made.tag = tag;
            made.rest = rest;
            made.time = time;
            made.share = share;
            made.packets.addAll(packets);
            return made;
        }
    }

    private final TreeMap<Integer, Clazz> classes = new TreeMap<>();
    private int turns = 0;
    private int dropped = 0;
    private int[] latest = {-1, 0, -1};

    PlainTree() {
        Clazz root = new Clazz();
        root.parent = -1;
        classes.put(0, root);
    }

    /** Another one in the same state, which goes its own way from here. */
    PlainTree copy() {
        PlainTree made = new PlainTree();
        for (int c : classes.keySet()) {
            made.classes.put(c, classes.get(c).copy());
        }
        made.turns = turns;
        made.dropped = dropped;
        made.latest = latest;
        return made;
    }

    int add(int parent, int weight, int limit) {
        need(parent);
        argument(weight >= 1 && weight <= 1000 && limit >= 1 && limit <= 2000);
        state(!(isLeaf(parent) && load(parent) > 0));
        if (classes.size() == 64) {
            throw new UnsupportedOperationException();
        }
        int number = 0;
        while (classes.containsKey(number)) {
            number++;
        }
        Set<Integer> before = openOnes();
        Clazz made = new Clazz();
        made.parent = parent;
        made.weight = weight;
        made.limit = limit;
        classes.put(number, made);
        opened(before);
        return number;
    }

    void remove(int c) {
        need(c);
        state(isLeaf(c) && load(c) == 0);
        Set<Integer> before = openOnes();
        classes.remove(c);
        opened(before);
    }

    void weight(int c, int weight) {
        needBelowRoot(c);
        argument(weight >= 1 && weight <= 1000);
        classes.get(c).weight = weight;
        classes.get(c).rest = 0;
    }

    void move(int c, int parent) {
        needBelowRoot(c);
        need(parent);
        argument(!isIn(parent, c));
        state(!(isLeaf(parent) && load(parent) > 0));
        Set<Integer> before = openOnes();
        Clazz moved = classes.get(c);
        moved.parent = parent;
        moved.tag = classes.get(parent).time;
        moved.rest = 0;
        opened(before);
    }

    boolean put(int c, int id, int length) {
        need(c);
        state(isLeaf(c));
        argument(length >= 1 && length <= 2000);
        if (load(0) == 2000) {
            throw new UnsupportedOperationException();
        }
        return come(c, id, length);
    }

    int putAll(int c, int id, int length, int n) {
        need(c);
        state(isLeaf(c));
        argument(length >= 1 && length <= 2000 && n >= 0 && n <= 500);
        for (int i = 0; i < n; i++) {
            if (load(0) == 2000 || !come(c, id + i, length)) {
                return i;
            }
        }
        return n;
    }

    private boolean come(int c, int id, int length) {
        Clazz leaf = classes.get(c);
        if (leaf.packets.size() == leaf.limit) {
            dropped++;
            return false;
        }
        Set<Integer> before = openOnes();
        leaf.packets.add(new Packet(id, length));
        opened(before);
        return true;
    }

    boolean turn() {
        Set<Integer> before = openOnes();
        if (!before.contains(0)) {
            return false;
        }
        int c = 0;
        while (!isLeaf(c)) {
            int next = -1;
            for (int child : children(c)) {
                boolean less = next == -1 || classes.get(child).tag < classes.get(next).tag;
                next = before.contains(child) && less ? child : next;
            }
            classes.get(c).time = classes.get(next).tag;
            c = next;
        }
        Packet sent = classes.get(c).packets.remove(0);
        latest = new int[] {c, sent.id, sent.length};
        for (int n = c; n != 0; n = classes.get(n).parent) {
            Clazz on = classes.get(n);
            long due = 65536L * sent.length + on.rest;
            on.tag += Math.floorDiv(due, (long) on.weight);
            on.rest = Math.floorMod(due, (long) on.weight);
            on.share += sent.length;
        }
        classes.get(0).share += sent.length;
        turns++;
        for (Clazz one : classes.values()) {
            one.held = Math.max(0, one.held - 1);
        }
        opened(before);
        return true;
    }

    int turns(int n) {
        argument(n >= 0 && n <= 1000);
        for (int i = 0; i < n; i++) {
            if (!turn()) {
                return i;
            }
        }
        return n;
    }

    @Override
    public int latest(int what) {
        argument(what >= 0 && what <= 2);
        return latest[what];
    }

    int clear(int c) {
        need(c);
        int all = load(c);
        for (int n : classes.keySet()) {
            if (isIn(n, c)) {
                classes.get(n).packets.clear();
            }
        }
        dropped += all;
        return all;
    }

    void hold(int c, int turns) {
        needBelowRoot(c);
        argument(turns >= 0 && turns <= 1000);
        Set<Integer> before = openOnes();
        classes.get(c).held = turns;
        opened(before);
    }

    @Override
    public int child(int c, int k) {
        need(c);
        List<Integer> sorted = children(c);
        sorted.sort(Comparator.comparingLong((Integer n) -> classes.get(n).tag).thenComparingInt(n -> n));
        return sorted.get(k);
    }

    @Override
    public int packet(int c, int k) {
        need(c);
        if (!isLeaf(c)) {
            throw new IndexOutOfBoundsException();
        }
        return classes.get(c).packets.get(k).id;
    }

    @Override
    public long sum(int c, int what) {
        need(c);
        argument(what >= 0 && what <= 3);
        Clazz one = classes.get(c);
        return new long[] {one.tag, one.time, one.share, bytes(c)}[what];
    }

    @Override
    public int about(int c, int what) {
        need(c);
        argument(what >= 0 && what <= 7);
        Clazz one = classes.get(c);
        return new int[] {one.parent, one.weight, (int) one.rest, children(c).size(), load(c),
            isOpen(c) ? 1 : 0, one.held, one.limit}[what];
    }

    @Override
    public int count(int what) {
        argument(what >= 0 && what <= 4);
        int openLeaves = 0;
        for (int c : classes.keySet()) {
            openLeaves += isLeaf(c) && isOpen(c) ? 1 : 0;
        }
        return new int[] {classes.size(), load(0), openLeaves, turns, dropped}[what];
    }

    private void need(int c) {
        if (!classes.containsKey(c)) {
            throw new IndexOutOfBoundsException();
        }
    }

    private void needBelowRoot(int c) {
        need(c == 0 ? -1 : c);
    }

    private static void argument(boolean fits) {
        if (!fits) {
            throw new IllegalArgumentException();
        }
    }

    private static void state(boolean fits) {
        if (!fits) {
            throw new IllegalStateException();
        }
    }

    private List<Integer> children(int c) {
        List<Integer> found = new ArrayList<>();
        for (int n : classes.keySet()) {
            if (classes.get(n).parent == c) {
                found.add(n);
            }
        }
        return found;
    }

    private boolean isLeaf(int c) {
        return c != 0 && children(c).isEmpty();
    }

    private boolean isIn(int c, int top) {
        return c == top || c != 0 && isIn(classes.get(c).parent, top);
    }

    private int load(int c) {
        int all = classes.get(c).packets.size();
        for (int child : children(c)) {
            all += load(child);
        }
        return all;
    }

    private long bytes(int c) {
        long all = 0;
        for (Packet packet : classes.get(c).packets) {
            all += packet.length;
        }
        for (int child : children(c)) {
            all += bytes(child);
        }
        return all;
    }

    private boolean isOpen(int c) {
        if (load(c) == 0 || classes.get(c).held > 0) {
            return false;
        }
        boolean openChild = false;
        for (int child : children(c)) {
            openChild |= isOpen(child);
        }
        return isLeaf(c) || openChild;
    }

    private Set<Integer> openOnes() {
        Set<Integer> open = new HashSet<>();
        for (int c : classes.keySet()) {
            if (isOpen(c)) {
                open.add(c);
            }
        }
        return open;
    }

    /** What the terms say of a class that becomes open. */
    private void opened(Set<Integer> before) {
        for (int c : openOnes()) {
            Clazz one = classes.get(c);
            if (c != 0 && !before.contains(c) && classes.get(one.parent).time > one.tag) {
                one.tag = classes.get(one.parent).time;
                one.rest = 0;
            }
        }
    }
}
