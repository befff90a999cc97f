/** What is to be seen of an object, as texts, so that two of them can be compared. */
final class Picture {
    /** How many aspects there are. */
    static final int ASPECTS = 7;

    private Picture() {
    }

    /** What a change records: everything but the pad, the snapshot and the history. */
    static String recorded(ColdPanes x) {
        StringBuilder text = new StringBuilder();
        for (int what = 0; what <= 14; what++) {
            text.append(x.count(what)).append(' ');
        }
        for (int cell = 0; cell < 36; cell++) {
            text.append(x.cell(cell, 0)).append(' ');
        }
        for (int joint = 0; joint < 60; joint++) {
            text.append(x.joint(joint, 3)).append(' ').append(x.joint(joint, 5)).append(' ');
        }
        return text.toString();
    }

    /**
     * What is recorded, the pad, one of the states of the history, or the snapshot. An object is asked
     * for one aspect alone: it would change in telling the next, and has no more than 512 calls.
     */
    static String aspect(ColdPanes x, int number) {
        StringBuilder text = new StringBuilder();
        if (number == 0) {
            text.append(x.count(15)).append(' ').append(x.count(16)).append(' ');
        } else if (number == 1) {
            pad(x, text);
        } else if (number == 2) {
            text.append(x.restore()).append(' ');
        } else {
            for (int state = 3; state <= number; state++) {
                text.append(x.undo()).append(' ');
            }
        }
        return text.append(recorded(x)).toString();
    }

    // A pad that is not complete tells its characters only when it has been completed.
    private static void pad(ColdPanes x, StringBuilder text) {
        text.append(x.fault()).append(' ').append(x.run()).append(' ');
        text.append(x.append('x')).append(' ').append(x.append('2')).append(' ');
        text.append(x.fault()).append(' ').append(x.run()).append(' ');
    }
}
