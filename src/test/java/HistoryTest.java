/** Promises 22 to 24, and which calls are changes. */
public final class HistoryTest {
    private static final int IMPOSSIBLE = ColdPanes.NOT_POSSIBLE;

    public static void main(String[] arguments) {
        fourStates();
        everyChangeIsUndone();
        whatIsNoChange();
        undoLeavesPadAndSnapshot();
        saveAndRestore();
        restoreIsAChange();
        Check.end();
    }

    private static void fourStates() {
        ColdPanes x = new ColdPanes();
        Check.due("undo()", x.undo(), IMPOSSIBLE);
        for (int heat = 1; heat <= 6; heat++) {
            x.begin(heat);
            Check.due("states", x.count(16), Math.min(4, heat));
        }
        for (int states = 3; states >= 0; states--) {
            Check.due("undo()", x.undo(), states);
            Check.due("furnace", x.count(0), 2 + states);
            Check.due("states", x.count(16), states);
        }
        Check.due("undo()", x.undo(), IMPOSSIBLE);
        Check.due("the oldest ones are dropped", x.count(0), 2);
        x.begin(9);
        Check.due("undo()", x.undo(), 0);
        Check.due("furnace", x.count(0), 2);
    }

    private static void everyChangeIsUndone() {
        for (int change = 0; change < 9; change++) {
            ColdPanes x = Check.still();
            x.heat(0, 120);
            x.save();
            x.pass(1);
            x.aim(1, 2);
            // A history that is not full tells whether a state was added.
            Check.due("undo()", x.undo(), 3);
            String before = picture(x);
            make(x, change);
            Check.due("states behind change " + change, x.count(16), 4);
            Check.dueTrue("change " + change + " is to be seen", !picture(x).equals(before));
            Check.due("undo() of change " + change, x.undo(), 3);
            Check.dueTrue("change " + change + " is undone", picture(x).equals(before));
        }
    }

    private static void make(ColdPanes x, int change) {
        switch (change) {
            case 0: x.begin(33); break;
            case 1: x.aim(44, 55); break;
            case 2: x.pass(3); break;
            case 3: x.scratch(59, 66); break;
            case 4: x.mend(0); break;
            case 5: x.heat(35, 77); break;
            case 6: x.set(ColdPanes.RIM, 9); break;
            case 7: Check.write(x, "10/9x8"); x.run(); break;
            default: x.restore();
        }
    }

    /** All that a change records. */
    private static String picture(ColdPanes x) {
        StringBuilder text = new StringBuilder();
        for (int what = 0; what <= 14; what++) {
            text.append(x.count(what)).append(' ');
        }
        for (int cell = 0; cell < 36; cell++) {
            text.append(x.cell(cell, 0)).append(' ');
        }
        for (int joint = 0; joint < 60; joint++) {
            text.append(x.joint(joint, 2)).append(' ').append(x.joint(joint, 3)).append(' ');
            text.append(x.joint(joint, 5)).append(' ');
        }
        return text.toString();
    }

    private static void whatIsNoChange() {
        ColdPanes x = new ColdPanes();
        x.append('h');
        x.append('1');
        x.fault();
        x.save();
        x.clear();
        x.begin(-1);
        x.pass(100);
        x.mend(0);
        x.run();
        x.undo();
        Check.due("states", x.count(16), 0);
        x.set(ColdPanes.LEAD, 10);
        Check.due("a change that makes nothing different", x.count(16), 1);
        x.heat(0, 0);
        Check.due("a change that makes nothing different", x.count(16), 2);
    }

    private static void undoLeavesPadAndSnapshot() {
        ColdPanes x = new ColdPanes();
        x.begin(100);
        Check.write(x, "h1;h");
        x.begin(200);
        x.save();
        x.append('2');
        Check.due("undo()", x.undo(), 1);
        Check.due("length", x.count(15), 5);
        Check.due("fault()", x.fault(), ColdPanes.NOT_FOUND);
        Check.due("undo()", x.undo(), 0);
        Check.due("restore()", x.restore(), 0);
        Check.due("the snapshot stays", x.count(0), 200);
    }

    private static void saveAndRestore() {
        ColdPanes x = Check.still();
        Check.due("restore() without a snapshot", x.restore(), IMPOSSIBLE);
        Check.due("states", x.count(16), 2);
        x.heat(0, 120);
        x.aim(700, 20);
        x.pass(7);
        String saved = picture(x);
        Check.due("save()", x.save(), 7);
        x.begin(5);
        x.set(ColdPanes.LEAD, 3);
        Check.write(x, "h9");
        Check.due("restore()", x.restore(), 7);
        Check.dueTrue("all is as it was saved", picture(x).equals(saved));
        Check.due("the pad stays", x.count(15), 2);
        x.pass(90);
        Check.due("restore() once more", x.restore(), 7);
        Check.dueTrue("the snapshot stayed", picture(x).equals(saved));
        x.pass(2);
        Check.due("save() in its place", x.save(), 9);
        x.begin(5);
        Check.due("restore()", x.restore(), 9);
    }

    private static void restoreIsAChange() {
        ColdPanes x = new ColdPanes();
        x.save();
        x.begin(10);
        x.begin(20);
        Check.due("restore()", x.restore(), 0);
        Check.due("states: the history stays and grows", x.count(16), 3);
        Check.due("furnace", x.count(0), 600);
        Check.due("undo()", x.undo(), 2);
        Check.due("furnace", x.count(0), 20);
        Check.due("undo()", x.undo(), 1);
        Check.due("furnace", x.count(0), 10);
    }
}
