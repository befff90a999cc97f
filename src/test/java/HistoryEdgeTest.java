import java.util.function.ToIntFunction;

/** The boundary cases that "Changes and errors" and promises 22 to 24 name; each test bears the words that it holds to. */
public final class HistoryEdgeTest {
    private static final int IMPOSSIBLE = ColdPanes.NOT_POSSIBLE;
    private static final int NOTHING = ColdPanes.NOT_FOUND;

    public static void main(String[] arguments) {
        theChanges();
        changesThatMakeNothingDifferent();
        whatIsNoChange();
        errorsAreNoChanges();
        atMostFourStates();
        theOldestIsDropped();
        dropsAgainAndAgain();
        undoOfAnEmptyHistory();
        undoneToTheFirst();
        changeBehindUndo();
        everythingIsAsItWas();
        undoLeavesThePad();
        undoLeavesTheSnapshot();
        saveAnswersTheMinutes();
        saveInPlaceOfTheOneThatWas();
        saveWithoutPadAndHistory();
        restoreWithoutASnapshot();
        restoreAnswersTheMinutesThen();
        theSnapshotStays();
        restoreIsAChange();
        snapshotsOfTheEnds();
        Check.end();
    }

    private static int make(ColdPanes x, int change) {
        switch (change) {
            case 0: return x.begin(33);
            case 1: return x.aim(44, 55);
            case 2: return x.pass(3);
            case 3: return x.scratch(37, 66);
            case 4: return x.mend(0);
            case 5: return x.heat(35, 77);
            case 6: return x.set(ColdPanes.RIM, 9);
            case 7: return x.run();
            default: return x.restore();
        }
    }

    /** A lively pane whose history has three states, so that a change is seen to add one. */
    private static ColdPanes livelyWithRoom() {
        ColdPanes x = Refused.lively();
        Check.due("undo()", x.undo(), 3);
        return x;
    }

    /** "the calls of begin, aim, pass, scratch, mend, heat, set, run and restore that return no error". */
    private static void theChanges() {
        for (int change = 0; change <= 8; change++) {
            String name = "change " + change;
            ColdPanes before = livelyWithRoom();
            ColdPanes changed = livelyWithRoom();
            Check.dueTrue(name + " returns no error", make(changed, change) >= 0);
            Check.due(name + ": states", changed.count(16), 4);
            Check.dueTrue(name + " is to be seen", !Picture.recorded(before).equals(Picture.recorded(changed)));
            ColdPanes undone = livelyWithRoom();
            make(undone, change);
            Check.due(name + ": undo()", undone.undo(), 3);
            Check.dueTrue(name + " is undone", Picture.recorded(livelyWithRoom()).equals(Picture.recorded(undone)));
        }
    }

    /** "(also if nothing is different then)". */
    private static void changesThatMakeNothingDifferent() {
        dueStates("begin(600)", x -> x.begin(600));
        dueStates("aim(600, 10)", x -> x.aim(600, 10));
        dueStates("scratch(0, 100)", x -> x.scratch(0, 100));
        dueStates("heat(0, 0)", x -> x.heat(0, 0));
        dueStates("set(LEAD, 10)", x -> x.set(ColdPanes.LEAD, 10));
        dueStates("set(RIM, 8)", x -> x.set(ColdPanes.RIM, 8));
        dueStates("restore()", ColdPanes::restore);
    }

    private static void dueStates(String call, ToIntFunction<ColdPanes> change) {
        ColdPanes x = new ColdPanes();
        x.save();
        for (int states = 1; states <= 5; states++) {
            Check.dueTrue(call + " returns no error", change.applyAsInt(x) >= 0);
            Check.due("states behind " + call, x.count(16), Math.min(4, states));
        }
        Check.due("undo() of " + call, x.undo(), 3);
        Check.due("sum behind undo()", x.count(4), 21600);
    }

    private static void whatIsNoChange() {
        ColdPanes x = new ColdPanes();
        x.begin(7);
        x.append('h');
        x.append('1');
        x.fault();
        x.save();
        x.clear();
        x.cell(0, 1);
        x.joint(0, 6);
        x.strained(0);
        x.pieces(0);
        x.pieces(1);
        x.count(11);
        x.mean(0);
        x.ifPassed(9, 0);
        x.fastest(0, 9);
        x.evenIn(0);
        Check.due("states", x.count(16), 1);
        Check.due("undo()", x.undo(), 0);
        Check.due("states behind undo(), which is none either", x.count(16), 0);
        Check.due("furnace", x.count(0), 600);
    }

    /** "A call that returns an error changes nothing": nor is it recorded, or drops a state. */
    private static void errorsAreNoChanges() {
        ColdPanes x = new ColdPanes();
        x.restore();
        x.run();
        x.mend(0);
        x.begin(1001);
        x.aim(0, 0);
        x.pass(0);
        x.scratch(0, 0);
        x.heat(0, 201);
        x.set(0, 21);
        Check.due("states", x.count(16), 0);
        for (int heat = 1; heat <= 4; heat++) {
            x.begin(heat);
        }
        x.pass(100);
        x.mend(0);
        x.run();
        x.restore();
        for (int states = 3; states >= 0; states--) {
            Check.due("undo()", x.undo(), states);
        }
        Check.due("the first state is there still", x.count(0), 600);
    }

    /** "A history of at most 4 states is kept". */
    private static void atMostFourStates() {
        ColdPanes x = new ColdPanes();
        for (int change = 0; change <= 9; change++) {
            Check.due("states behind " + change + " changes", x.count(16), Math.min(4, change));
            x.pass(1);
        }
    }

    /** "if there are 5 states then, the oldest one is dropped": with four there is none to drop. */
    private static void theOldestIsDropped() {
        for (int changes = 4; changes <= 6; changes++) {
            ColdPanes x = new ColdPanes();
            for (int change = 1; change <= changes; change++) {
                x.begin(change);
            }
            for (int states = 3; states >= 0; states--) {
                Check.due("undo() of " + changes, x.undo(), states);
                int left = changes - 4 + states;
                Check.due("furnace behind undo()", x.count(0), left == 0 ? 600 : left);
            }
            Check.due("undo() of " + changes, x.undo(), IMPOSSIBLE);
        }
    }

    private static void dropsAgainAndAgain() {
        ColdPanes x = new ColdPanes();
        for (int heat = 1; heat <= 40; heat++) {
            x.begin(heat);
            x.heat(heat % 36, 1);
            Check.due("undo() of a flame", x.undo(), Math.min(3, heat));
            Check.due("sum", x.count(4), 36 * heat);
        }
        for (int heat = 39; heat >= 37; heat--) {
            Check.due("undo()", x.undo(), heat - 37);
            Check.due("sum", x.count(4), 36 * heat);
        }
        Check.due("undo()", x.undo(), IMPOSSIBLE);
    }

    /** "NOT_POSSIBLE if it has none." */
    private static void undoOfAnEmptyHistory() {
        Refused.in(ColdPanes::new, "undo()", ColdPanes::undo, IMPOSSIBLE);
        Refused.in(HistoryEdgeTest::livelyUndone, "undo() behind four", ColdPanes::undo, IMPOSSIBLE);
    }

    private static ColdPanes livelyUndone() {
        ColdPanes x = Refused.lively();
        for (int states = 3; states >= 0; states--) {
            Check.due("undo()", x.undo(), states);
        }
        return x;
    }

    /** "Returns how many states the history has then". */
    private static void undoneToTheFirst() {
        ColdPanes x = new ColdPanes();
        x.pass(1);
        Check.due("undo() of the only one", x.undo(), 0);
        Check.due("minutes", x.count(3), 0);
        Check.due("undo()", x.undo(), IMPOSSIBLE);
        x.pass(1);
        x.pass(2);
        Check.due("undo() of one of two", x.undo(), 1);
        Check.due("minutes", x.count(3), 1);
    }

    private static void changeBehindUndo() {
        ColdPanes x = new ColdPanes();
        for (int heat = 1; heat <= 4; heat++) {
            x.begin(heat);
        }
        x.undo();
        x.undo();
        x.begin(9);
        Check.due("states", x.count(16), 3);
        Check.due("undo()", x.undo(), 2);
        Check.due("furnace: the state ahead of the new change", x.count(0), 2);
        Check.due("undo()", x.undo(), 1);
        Check.due("furnace", x.count(0), 1);
        Check.due("undo()", x.undo(), 0);
        Check.due("furnace", x.count(0), 600);
        Check.due("undo()", x.undo(), IMPOSSIBLE);
    }

    /** "everything but the pad and the snapshot is as it was before it": also what later calls bring. */
    private static void everythingIsAsItWas() {
        ColdPanes x = Refused.lively();
        ColdPanes y = Refused.lively();
        y.set(ColdPanes.LEAD, 20);
        Check.due("undo()", y.undo(), 3);
        Check.due("pass(30)", y.pass(30), x.pass(30));
        Check.dueTrue("all goes on as it would have", Picture.recorded(x).equals(Picture.recorded(y)));
        ColdPanes z = Check.shattered();
        z.begin(0);
        z.undo();
        Check.due("cracked", z.count(6), 60);
        Check.due("joint(59, 5)", z.joint(59, 5) > 0 ? 1 : 0, 1);
        Check.due("minutes", z.count(3), 60);
        Check.due("flames", z.count(14), 18 * 150);
    }

    private static void undoLeavesThePad() {
        ColdPanes x = new ColdPanes();
        Check.write(x, "h1");
        x.pass(1);
        x.append(';');
        x.append('h');
        x.append('2');
        Check.due("undo()", x.undo(), 0);
        Check.due("count(15)", x.count(15), 5);
        Check.due("run()", x.run(), 2);
        Check.due("undo() of run()", x.undo(), 0);
        Check.due("count(15)", x.count(15), 0);
        x.pass(1);
        Check.write(x, Check.repeated("h1;", 20));
        x.undo();
        Check.due("count(15)", x.count(15), 60);
        Check.due("append(104)", x.append('h'), ColdPanes.LIMIT_REACHED);
    }

    private static void undoLeavesTheSnapshot() {
        ColdPanes x = new ColdPanes();
        x.pass(5);
        Check.due("save()", x.save(), 5);
        Check.due("undo()", x.undo(), 0);
        Check.due("minutes", x.count(3), 0);
        Check.due("restore()", x.restore(), 5);
        Check.due("undo()", x.undo(), 0);
        Check.due("minutes", x.count(3), 0);
        Check.due("restore() of what stays", x.restore(), 5);
    }

    /** "Returns how many minutes have passed.": from 0 on. */
    private static void saveAnswersTheMinutes() {
        ColdPanes x = new ColdPanes();
        Check.due("save()", x.save(), 0);
        x.pass(99);
        Check.due("save()", x.save(), 99);
        x.pass(99);
        Check.due("save()", x.save(), 198);
        x.begin(5);
        Check.due("save()", x.save(), 0);
    }

    /** "in place of the one that was". */
    private static void saveInPlaceOfTheOneThatWas() {
        ColdPanes x = new ColdPanes();
        x.begin(1);
        x.save();
        x.begin(2);
        x.save();
        x.begin(3);
        Check.due("restore()", x.restore(), 0);
        Check.due("furnace", x.count(0), 2);
        x.save();
        Check.due("restore() of what has been restored", x.restore(), 0);
        Check.due("furnace", x.count(0), 2);
    }

    /** "everything but the pad and the history". */
    private static void saveWithoutPadAndHistory() {
        ColdPanes x = new ColdPanes();
        Check.write(x, "h1");
        x.begin(1);
        x.save();
        Check.write(x, "h2;h3");
        x.begin(2);
        x.begin(3);
        Check.due("restore()", x.restore(), 0);
        Check.due("count(15)", x.count(15), 5);
        Check.due("states", x.count(16), 4);
        Check.due("undo()", x.undo(), 3);
        Check.due("furnace", x.count(0), 3);
        Check.due("undo()", x.undo(), 2);
        Check.due("furnace", x.count(0), 2);
        Check.due("run()", x.run(), 2);
        Check.due("minutes", x.count(3), 5);
    }

    /** "NOT_POSSIBLE if there is none." */
    private static void restoreWithoutASnapshot() {
        Refused.in(ColdPanes::new, "restore()", ColdPanes::restore, IMPOSSIBLE);
        Refused.in(Refused::shards, "restore()", ColdPanes::restore, IMPOSSIBLE);
    }

    /** "Returns how many minutes have passed then". */
    private static void restoreAnswersTheMinutesThen() {
        ColdPanes x = new ColdPanes();
        x.save();
        x.pass(9);
        Check.due("restore()", x.restore(), 0);
        x.pass(4);
        x.save();
        x.pass(90);
        Check.due("restore()", x.restore(), 4);
        Check.due("minutes", x.count(3), 4);
    }

    /** "Restores the snapshot, which stays." */
    private static void theSnapshotStays() {
        ColdPanes x = new ColdPanes();
        x.heat(3, 7);
        x.save();
        for (int time = 0; time < 6; time++) {
            x.begin(10 * time);
            x.scratch(time, 3);
            Check.due("restore()", x.restore(), 0);
            Check.due("cell(3, 0)", x.cell(3, 0), 607);
            Check.due("joint(" + time + ", 3)", x.joint(time, 3), 100);
        }
        x.heat(3, 90);
        Check.due("restore(): flames do not reach the snapshot", x.restore(), 0);
        Check.due("cell(3, 0)", x.cell(3, 0), 607);
    }

    private static void restoreIsAChange() {
        ColdPanes x = new ColdPanes();
        x.save();
        for (int heat = 1; heat <= 4; heat++) {
            x.begin(heat);
        }
        Check.due("restore() with a full history", x.restore(), 0);
        Check.due("states", x.count(16), 4);
        for (int states = 3; states >= 0; states--) {
            Check.due("undo()", x.undo(), states);
            Check.due("furnace", x.count(0), states + 1);
        }
    }

    /** A snapshot holds a new pane, and one without whole joints. */
    private static void snapshotsOfTheEnds() {
        ColdPanes x = Check.shattered();
        x.save();
        x.begin(0);
        Check.due("restore()", x.restore(), 60);
        Check.due("cracked", x.count(6), 60);
        Check.due("strained(0)", x.strained(0), NOTHING);
        Check.due("mend(59)", x.mend(59), 59);
        Check.due("restore()", x.restore(), 60);
        Check.due("cracked", x.count(6), 60);
        ColdPanes y = new ColdPanes();
        y.save();
        y.heat(0, 200);
        y.pass(20);
        Check.due("restore()", y.restore(), 0);
        Check.dueTrue("a new pane", Picture.recorded(y).equals(Picture.recorded(new ColdPanes())));
    }
}
