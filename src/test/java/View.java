/** All that an object tells, as a text. */
final class View {
    private static final int MOST_PACKETS_ASKED = 50;
    private static final int TURNS_ASKED = 80;
    private static final int ADDS_ASKED = 65;

    private View() {
    }

    static String ofAll(TurnTree tree) {
        return ofAll(Answers.of(tree));
    }

    static String ofAll(Answers tree) {
        StringBuilder text = new StringBuilder("counts");
        for (int what = 0; what <= 4; what++) {
            text.append(' ').append(tree.count(what));
        }
        text.append(" latest");
        for (int what = 0; what <= 2; what++) {
            text.append(' ').append(tree.latest(what));
        }
        return text.toString();
    }

    /** What comes of the object when it is used on; this changes it. */
    static String ofFuture(TurnTree tree) {
        StringBuilder text = new StringBuilder("turns");
        for (int i = 0; i < TURNS_ASKED; i++) {
            text.append(' ').append(tree.turn());
            for (int what = 0; what <= 2; what++) {
                text.append(' ').append(tree.latest(what));
            }
        }
        text.append(" added");
        for (int i = 0; i < ADDS_ASKED; i++) {
            text.append(' ').append(Check.thrownBy(tree, t -> t.add(0, 1, 1)));
        }
        return text.append(' ').append(ofAll(tree)).toString();
    }

    static String ofClass(TurnTree tree, int c) {
        return ofClass(Answers.of(tree), c);
    }

    static String ofClass(Answers tree, int c) {
        StringBuilder text = new StringBuilder();
        try {
            text.append("about");
            for (int what = 0; what <= 7; what++) {
                text.append(' ').append(tree.about(c, what));
            }
        } catch (IndexOutOfBoundsException e) {
            return "no class";
        }
        text.append(" sums");
        for (int what = 0; what <= 3; what++) {
            text.append(' ').append(tree.sum(c, what));
        }
        text.append(" children");
        for (int k = 0; k < tree.about(c, 3); k++) {
            text.append(' ').append(tree.child(c, k));
        }
        text.append(" packets");
        int packets = tree.about(c, 3) == 0 ? tree.about(c, 4) : 0;
        for (int k = 0; k < Math.min(packets, MOST_PACKETS_ASKED); k++) {
            text.append(' ').append(tree.packet(c, k));
        }
        return text.toString();
    }
}
