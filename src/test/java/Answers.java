/** The calls that only ask: those of an object, or those of its plain model. */
interface Answers {
    int latest(int what);

    int child(int c, int k);

    int packet(int c, int k);

    long sum(int c, int what);

    int about(int c, int what);

    int count(int what);

    static Answers of(TurnTree tree) {
        return new Answers() {
            @Override
            public int latest(int what) {
                return tree.latest(what);
            }

            @Override
            public int child(int c, int k) {
                return tree.child(c, k);
            }

            @Override
            public int packet(int c, int k) {
                return tree.packet(c, k);
            }

            @Override
            public long sum(int c, int what) {
                return tree.sum(c, what);
            }

            @Override
            public int about(int c, int what) {
                return tree.about(c, what);
            }

            @Override
            public int count(int what) {
                return tree.count(what);
            }
        };
    }
}
