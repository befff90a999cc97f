/** Promises 22 to 24. */
public final class HistoryTest {
    private static final int IMPOSSIBLE = ColdPanes.NOT_POSSIBLE;

    public static void main(String[] arguments) {
        fourStates();
        whatIsNoChange();
        undoLeavesPadAndSnapshot();
        saveAndRestore();
        restoreIsAChange();
        Check.end();
    }

    private static void fourStates() {
        ColdPanes x = new ColdPanes();
        Check.due("undo()", x.undo(), IMPOSSIBLE);
        for (int heat = 1; heat <= 6; heat++) {
            x.begin(heat);
            Check.due("states", x.count(16), Math.min(4, heat));
        }
        for (int states = 3; states >= 0; states--) {
            Check.due("undo()", x.undo(), states);
            Check.due("furnace", x.count(0), 2 + states);
            Check.due("states", x.count(16), states);
        }
        Check.due("undo()", x.undo(), IMPOSSIBLE);
        Check.due("the oldest ones are dropped", x.count(0), 2);
        x.begin(9);
        Check.due("undo()", x.undo(), 0);
        Check.due("furnace", x.count(0), 2);
    }

    private static void whatIsNoChange() {
        ColdPanes x = new ColdPanes();
        x.append('h');
        x.append('1');
        x.fault();
        x.save();
        x.clear();
        x.begin(-1);
        x.pass(100);
        x.mend(0);
        x.run();
        x.undo();
        Check.due("states", x.count(16), 0);
        x.set(ColdPanes.LEAD, 10);
        Check.due("a change that makes nothing different", x.count(16), 1);
        x.heat(0, 0);
        Check.due("a change that makes nothing different", x.count(16), 2);
    }

    private static void undoLeavesPadAndSnapshot() {
        ColdPanes x = new ColdPanes();
        x.begin(100);
        Check.write(x, "h1;h");
        x.begin(200);
        x.save();
        x.append('2');
        Check.due("undo()", x.undo(), 1);
        Check.due("length", x.count(15), 5);
        Check.due("fault()", x.fault(), ColdPanes.NOT_FOUND);
        Check.due("undo()", x.undo(), 0);
        Check.due("restore()", x.restore(), 0);
        Check.due("the snapshot stays", x.count(0), 200);
    }

    private static ColdPanes saved() {
        ColdPanes x = Check.still();
        Check.due("restore() without a snapshot", x.restore(), IMPOSSIBLE);
        Check.due("states", x.count(16), 2);
        x.heat(0, 120);
        x.aim(700, 20);
        x.pass(7);
        Check.due("save()", x.save(), 7);
        return x;
    }

    private static void saveAndRestore() {
        String due = Picture.recorded(saved());
        ColdPanes x = saved();
        x.begin(5);
        x.set(ColdPanes.LEAD, 3);
        Check.write(x, "h9");
        Check.due("restore()", x.restore(), 7);
        Check.dueTrue("all is as it was saved", Picture.recorded(x).equals(due));
        Check.due("the pad stays", x.count(15), 2);
        x.pass(90);
        Check.due("restore() once more", x.restore(), 7);
        Check.dueTrue("the snapshot stayed", Picture.recorded(x).equals(due));
        x.pass(2);
        Check.due("save() in its place", x.save(), 9);
        x.begin(5);
        Check.due("restore()", x.restore(), 9);
    }

    private static void restoreIsAChange() {
        ColdPanes x = new ColdPanes();
        x.save();
        x.begin(10);
        x.begin(20);
        Check.due("restore()", x.restore(), 0);
        Check.due("states: the history stays and grows", x.count(16), 3);
        Check.due("furnace", x.count(0), 600);
        Check.due("undo()", x.undo(), 2);
        Check.due("furnace", x.count(0), 20);
        Check.due("undo()", x.undo(), 1);
        Check.due("furnace", x.count(0), 10);
    }
}
