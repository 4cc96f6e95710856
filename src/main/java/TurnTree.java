/**
 * Packets wait in the leaves of a tree of classes; whose turn it is, is told by tags that grow with
 * what was sent, by weights. README.md tells how to use it.
 */
public final class TurnTree {
    public static final int NONE = -1;

    private static final int ROOT = 0;
    private static final int MOST_CLASSES = 64;
    private static final int MOST_PACKETS = 2000;
    private static final int MOST_WEIGHT = 1000;
    private static final int MOST_LIMIT = 2000;
    private static final int MOST_LENGTH = 2000;
    private static final int MOST_PUT_AT_ONCE = 500;
    private static final int MOST_TURNS = 1000;
    private static final int TAG_OF_A_BYTE = 65536;

    private final Node root;
    private final Node[] classes;
    private int classCount;
    private int packetCount;
    private int droppedCount;
    private int turnCount;
    /** Behind this turn no class is held, so that later turns need not look for holds that end. */
    private int lastHeldTurn;
    private int latestLeaf;
    private int latestId;
    private int latestLength;
    /** Packets that are out of use: the next ones to come are made of these, so few are ever made. */
    private Packet spare;

    public TurnTree() {
        root = new Node(ROOT, 0, 0);
        classes = new Node[MOST_CLASSES];
        classes[ROOT] = root;
        classCount = 1;
        latestLeaf = NONE;
        latestLength = NONE;
    }

    public int add(int parent, int weight, int limit)
            throws IndexOutOfBoundsException, IllegalArgumentException, IllegalStateException,
            UnsupportedOperationException {
        Node above = existing(parent);
        if (!isWeight(weight) || limit < 1 || limit > MOST_LIMIT) {
            throw new IllegalArgumentException();
        }
        if (above.line.count > 0) {
            throw new IllegalStateException();
        }
        int number = leastFreeNumber();
        if (number == NONE) {
            throw new UnsupportedOperationException();
        }
        Node made = new Node(number, weight, limit);
        above.adopt(made);
        classes[number] = made;
        classCount++;
        return number;
    }

    public void remove(int c) throws IndexOutOfBoundsException, IllegalStateException {
        Node node = existing(c);
        Node above = node.parent;
        if (above == null || !node.isLeaf() || node.line.count > 0) {
            throw new IllegalStateException();
        }
        above.letGo(node);
        classes[node.number] = null;
        classCount--;
    }

    public void weight(int c, int weight) throws IndexOutOfBoundsException, IllegalArgumentException {
        Node node = existingBelowRoot(c);
        if (!isWeight(weight)) {
            throw new IllegalArgumentException();
        }
        node.weight = weight;
        node.rest = 0;
    }

    public void move(int c, int parent)
            throws IndexOutOfBoundsException, IllegalArgumentException, IllegalStateException {
        Node node = existingBelowRoot(c);
        Node to = existing(parent);
        if (to.isInside(node)) {
            throw new IllegalArgumentException();
        }
        if (to.line.count > 0) {
            throw new IllegalStateException();
        }
        Node from = node.parent;
        if (from != null) {
            from.letGo(node);
        }
        to.adopt(node);
        node.tag = to.time;
        node.rest = 0;
        if (node.open && from != null) {
            carryOpenness(from, to);
        }
    }

    public boolean put(int c, int id, int length)
            throws IndexOutOfBoundsException, IllegalStateException, IllegalArgumentException,
            UnsupportedOperationException {
        Node leaf = existingLeaf(c);
        if (!isLength(length)) {
            throw new IllegalArgumentException();
        }
        if (packetCount >= MOST_PACKETS) {
            throw new UnsupportedOperationException();
        }
        return takeOrDrop(leaf, id, length);
    }

    public int putAll(int c, int id, int length, int n)
            throws IndexOutOfBoundsException, IllegalStateException, IllegalArgumentException {
        Node leaf = existingLeaf(c);
        if (!isLength(length) || n < 0 || n > MOST_PUT_AT_ONCE) {
            throw new IllegalArgumentException();
        }
        int stay = 0;
        while (stay < n && packetCount < MOST_PACKETS && takeOrDrop(leaf, id + stay, length)) {
            stay++;
        }
        return stay;
    }

    public boolean turn() {
        return takeTurn();
    }

    public int turns(int n) throws IllegalArgumentException {
        if (!isNumberOfTurns(n)) {
            throw new IllegalArgumentException();
        }
        int taken = 0;
        while (taken < n && takeTurn()) {
            taken++;
        }
        return taken;
    }

    public int latest(int what) throws IllegalArgumentException {
        switch (what) {
            case 0: return latestLeaf;
            case 1: return latestId;
            case 2: return latestLength;
            default: throw new IllegalArgumentException();
        }
    }

    public int clear(int c) throws IndexOutOfBoundsException {
        Node top = existing(c);
        int cleared = 0;
        for (int i = 0; i < MOST_CLASSES; i++) {
            Node node = classInside(i, top);
            if (node != null && node.line.count > 0) {
                cleared += node.line.count;
                spare = node.line.emptyOnto(spare);
                settle(node);
            }
        }
        packetCount -= cleared;
        droppedCount += cleared;
        return cleared;
    }

    public void hold(int c, int turns) throws IndexOutOfBoundsException, IllegalArgumentException {
        Node node = existingBelowRoot(c);
        if (!isNumberOfTurns(turns)) {
            throw new IllegalArgumentException();
        }
        node.heldUntil = turnCount + turns;
        lastHeldTurn = Math.max(lastHeldTurn, node.heldUntil);
        settle(node);
    }

    public int child(int c, int k) throws IndexOutOfBoundsException {
        Node found = existing(c).childOfRank(k);
        if (found == null) {
            throw new IndexOutOfBoundsException();
        }
        return found.number;
    }

    public int packet(int c, int k) throws IndexOutOfBoundsException {
        Packet found = existing(c).line.packetAt(k);
        if (found == null) {
            throw new IndexOutOfBoundsException();
        }
        return found.id;
    }

    public long sum(int c, int what) throws IndexOutOfBoundsException, IllegalArgumentException {
        Node node = existing(c);
        switch (what) {
            case 0: return node.tag;
            case 1: return node.time;
            case 2: return node.share;
            case 3: return bytesInside(node);
            default: throw new IllegalArgumentException();
        }
    }

    public int about(int c, int what) throws IndexOutOfBoundsException, IllegalArgumentException {
        Node node = existing(c);
        switch (what) {
            case 0: return node.parent == null ? NONE : node.parent.number;
            case 1: return node.weight;
            case 2: return node.rest;
            case 3: return node.countChildren();
            case 4: return packetsInside(node);
            case 5: return node.open ? 1 : 0;
            case 6: return Math.max(0, node.heldUntil - turnCount);
            case 7: return node.limit;
            default: throw new IllegalArgumentException();
        }
    }

    public int count(int what) throws IllegalArgumentException {
        switch (what) {
            case 0: return classCount;
            case 1: return packetCount;
            case 2: return openLeaves();
            case 3: return turnCount;
            case 4: return droppedCount;
            default: throw new IllegalArgumentException();
        }
    }

    private Node existing(int c) {
        if (c < 0 || c >= MOST_CLASSES || classes[c] == null) {
            throw new IndexOutOfBoundsException();
        }
        return classes[c];
    }

    private Node existingBelowRoot(int c) {
        if (c == ROOT) {
            throw new IndexOutOfBoundsException();
        }
        return existing(c);
    }

    private Node existingLeaf(int c) {
        Node node = existing(c);
        if (!node.isLeaf()) {
            throw new IllegalStateException();
        }
        return node;
    }

    /** The class of a number, if it is the class top or under it; else null. */
    private Node classInside(int number, Node top) {
        if (number < 0 || number >= MOST_CLASSES) {
            return null;
        }
        Node node = classes[number];
        return node != null && node.isInside(top) ? node : null;
    }

    private static boolean isWeight(int weight) {
        return weight >= 1 && weight <= MOST_WEIGHT;
    }

    private static boolean isLength(int length) {
        return length >= 1 && length <= MOST_LENGTH;
    }

    private static boolean isNumberOfTurns(int n) {
        return n >= 0 && n <= MOST_TURNS;
    }

    private int leastFreeNumber() {
        for (int i = 0; i < MOST_CLASSES; i++) {
            if (classes[i] == null) {
                return i;
            }
        }
        return NONE;
    }

    /** A packet comes to a leaf while all leaves together have room: whether the leaf has, too. */
    private boolean takeOrDrop(Node leaf, int id, int length) {
        if (leaf.line.count >= leaf.limit) {
            droppedCount++;
            return false;
        }
        Packet packet = unusedPacket();
        packet.id = id;
        packet.length = length;
        leaf.line.join(packet);
        packetCount++;
        settle(leaf);
        return true;
    }

    private Packet unusedPacket() {
        if (spare == null) {
            return new Packet();
        }
        Packet packet = spare;
        spare = packet.next;
        return packet;
    }

    private boolean takeTurn() {
        Node leaf = goDown();
        Packet sent = leaf.line.leave();
        if (sent == null) {
            return false;
        }
        packetCount--;
        turnCount++;
        latestLeaf = leaf.number;
        latestId = sent.id;
        latestLength = sent.length;
        for (Node node = leaf; node != null; node = node.parent) {
            node.charge(sent.length);
        }
        sent.next = spare;
        spare = sent;
        // The holds end first: a class that stays open through one of them must not close in between.
        endHolds();
        settle(leaf);
        return true;
    }

    /** The leaf whose turn it is, with the times set on the way to it; the root if there is none. */
    private Node goDown() {
        Node last = root;
        for (Node next = root.leastOpenChild(); next != null; next = next.leastOpenChild()) {
            last.time = next.tag;
            last = next;
        }
        return last;
    }

    private void endHolds() {
        if (turnCount > lastHeldTurn) {
            return;
        }
        for (int i = 0; i < MOST_CLASSES; i++) {
            Node node = classes[i];
            if (node != null && node.heldUntil == turnCount) {
                settle(node);
            }
        }
    }

    /** An open class went from one parent to another one. */
    private void carryOpenness(Node from, Node to) {
        // First in, then out: a class above both was open and stays so, it must not close in between.
        to.openChildren++;
        settle(to);
        from.openChildren--;
        settle(from);
    }

    /** Tells a class, and from it those above it, whether they are open after a change in it. */
    private void settle(Node changed) {
        for (Node node = changed; node != null; node = node.parent) {
            boolean open = node.heldUntil <= turnCount && node.hasOpenContent();
            if (open == node.open) {
                return;
            }
            node.open = open;
            if (node.parent != null) {
                node.parent.openChildren += open ? 1 : -1;
            }
            if (open) {
                node.catchUp();
            }
        }
    }

    private long bytesInside(Node top) {
        long bytes = 0;
        for (int i = 0; i < MOST_CLASSES; i++) {
            Node node = classInside(i, top);
            bytes += node == null ? 0 : node.line.bytes;
        }
        return bytes;
    }

    private int packetsInside(Node top) {
        int packets = 0;
        for (int i = 0; i < MOST_CLASSES; i++) {
            Node node = classInside(i, top);
            packets += node == null ? 0 : node.line.count;
        }
        return packets;
    }

    private int openLeaves() {
        int leaves = 0;
        for (int i = 0; i < MOST_CLASSES; i++) {
            Node node = classes[i];
            if (node != null && node.open && node.isLeaf()) {
                leaves++;
            }
        }
        return leaves;
    }

    /** A packet, in the line of a leaf or spare. */
    private static final class Packet {
        int id;
        int length;
        Packet next;
    }

    /** The packets of a class, first in, first out; only a leaf's line has any. */
    private static final class Line {
        Packet first;
        Packet last;
        int count;
        int bytes;

        void join(Packet packet) {
            packet.next = null;
            if (last == null) {
                first = packet;
            } else {
                last.next = packet;
            }
            last = packet;
            count++;
            bytes += packet.length;
        }

        /** The first packet, which is in the line no more; null if the line is empty. */
        Packet leave() {
            Packet packet = first;
            if (packet == null) {
                return null;
            }
            first = packet.next;
            if (first == null) {
                last = null;
            }
            count--;
            bytes -= packet.length;
            return packet;
        }

        /** Puts all packets before a chain of others, and answers the chain that this makes. */
        Packet emptyOnto(Packet chain) {
            if (last == null) {
                return chain;
            }
            Packet head = first;
            last.next = chain;
            first = null;
            last = null;
            count = 0;
            bytes = 0;
            return head;
        }

        Packet packetAt(int k) {
            if (k < 0 || k >= count) {
                return null;
            }
            Packet packet = first;
            for (int i = 0; i < k && packet != null; i++) {
                packet = packet.next;
            }
            return packet;
        }
    }

    /** A class of the tree; its children are a chain in no order that matters. */
    private static final class Node {
        final int number;
        final int limit;
        final Line line;
        int weight;
        Node parent;
        Node firstChild;
        Node nextSibling;
        int openChildren;
        boolean open;
        /** The class is held while fewer turns than these have been. */
        int heldUntil;
        long tag;
        int rest;
        long time;
        long share;

        Node(int number, int weight, int limit) {
            this.number = number;
            this.weight = weight;
            this.limit = limit;
            this.line = new Line();
        }

        boolean isLeaf() {
            return firstChild == null && parent != null;
        }

        boolean isInside(Node top) {
            for (Node node = this; node != null; node = node.parent) {
                if (node == top) {
                    return true;
                }
            }
            return false;
        }

        void adopt(Node child) {
            child.parent = this;
            child.nextSibling = firstChild;
            firstChild = child;
        }

        void letGo(Node child) {
            if (firstChild == child) {
                firstChild = child.nextSibling;
            } else {
                Node before = firstChild;
                while (before != null && before.nextSibling != child) {
                    before = before.nextSibling;
                }
                if (before != null) {
                    before.nextSibling = child.nextSibling;
                }
            }
            child.parent = null;
            child.nextSibling = null;
        }

        int countChildren() {
            int children = 0;
            for (Node child = firstChild; child != null; child = child.nextSibling) {
                children++;
            }
            return children;
        }

        boolean comesBefore(Node other) {
            return tag < other.tag || tag == other.tag && number < other.number;
        }

        Node leastOpenChild() {
            Node least = null;
            for (Node child = firstChild; child != null; child = child.nextSibling) {
                if (child.open && (least == null || child.comesBefore(least))) {
                    least = child;
                }
            }
            return least;
        }

        /** The child that just so many others come before; null if there is none. */
        Node childOfRank(int rank) {
            for (Node child = firstChild; child != null; child = child.nextSibling) {
                if (countChildrenBefore(child) == rank) {
                    return child;
                }
            }
            return null;
        }

        int countChildrenBefore(Node child) {
            int before = 0;
            for (Node other = firstChild; other != null; other = other.nextSibling) {
                if (other.comesBefore(child)) {
                    before++;
                }
            }
            return before;
        }

        /** Whether the class would be open if it is not held; an open child has load, so it has too. */
        boolean hasOpenContent() {
            return firstChild == null ? line.count > 0 : openChildren > 0;
        }

        /** The class has become open: it must not make up for the time in which it was not. */
        void catchUp() {
            if (parent != null && parent.time > tag) {
                tag = parent.time;
                rest = 0;
            }
        }

        /** So many bytes were sent from the class, or from under it. */
        void charge(int length) {
            share += length;
            // The root alone has the weight 0, and no tag that grows.
            if (weight > 0) {
                int due = TAG_OF_A_BYTE * length + rest;
                tag += due / weight;
                rest = due % weight;
            }
        }
    }
}
