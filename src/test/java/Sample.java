/** Objects that several tests begin with. */
final class Sample {
    private Sample() {
    }

    /**
     * 1 holds the leaves 2 (with the packets 21 and 22) and 3 (empty); beside it are the leaves 4 (with
     * the packet 41) and 5 (held for 28 turns more, and full with 50 and 51). The number 6 is free again.
     * Two turns have been, and one packet was dropped.
     */
    static TurnTree busy() {
        TurnTree t = new TurnTree();
        t.add(0, 3, 10);
        t.add(1, 7, 10);
        t.add(1, 5, 3);
        t.add(0, 7, 5);
        t.add(0, 9, 2);
        t.add(0, 1, 1);
        t.remove(6);
        t.putAll(2, 20, 500, 3);
        t.putAll(4, 40, 64, 2);
        t.putAll(5, 50, 7, 3);
        t.hold(5, 30);
        t.turns(2);
        return t;
    }

    /** 64 classes, each n under n / 2: the leaves are 32 to 63, and 63 alone has a packet. */
    static TurnTree full() {
        TurnTree t = new TurnTree();
        for (int i = 1; i < 64; i++) {
            t.add(i / 2, 1, 1);
        }
        t.put(63, 1, 1);
        return t;
    }

    /** 2000 packets: the leaf 1 is full with 1000, the leaf 2 has 1000 of 2000; 3 holds the leaf 4. */
    static TurnTree crowded() {
        TurnTree t = new TurnTree();
        t.add(0, 1, 1000);
        t.add(0, 1, 2000);
        t.add(0, 1, 10);
        t.add(3, 1, 10);
        t.putAll(1, 0, 1, 500);
        t.putAll(1, 500, 1, 500);
        t.putAll(2, 0, 2000, 500);
        t.putAll(2, 500, 2000, 500);
        return t;
    }

    /** Leaves under the root, numbered from 1 on, with these weights and room for 2000 packets each. */
    static TurnTree leaves(int... weights) {
        TurnTree t = new TurnTree();
        for (int weight : weights) {
            t.add(0, weight, 2000);
        }
        return t;
    }
}
