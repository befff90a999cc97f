/** Promises 1 to 8, and what the document's terms say of a minute. */
public final class PaneTest {
    private static final int BAD = ColdPanes.INVALID_ARGUMENT;
    private static final int IMPOSSIBLE = ColdPanes.NOT_POSSIBLE;
    private static final int NOTHING = ColdPanes.NOT_FOUND;

    public static void main(String[] arguments) {
        newObject();
        begin();
        beginForgetsThePaneAlone();
        aim();
        furnaceGoesToItsAim();
        pass();
        flowOverJoints();
        flowIsRoundedTowardsZero();
        flowGoesByHeatsAheadOfTheMinute();
        flowAtTheRim();
        noFlowOverCrackedJoints();
        crackOfTheMostStrained();
        weakening();
        weakeningOfTheFirstJoint();
        scratch();
        mend();
        heat();
        set();
        Check.end();
    }

    private static void newObject() {
        ColdPanes x = new ColdPanes();
        int[] due = {600, 600, 10, 0, 21600, 0, 0, 600, 600, 0, 100, 36, 10, 8, 0, 0, 0};
        for (int what = 0; what < due.length; what++) {
            Check.due("count(" + what + ") of a new object", x.count(what), due[what]);
        }
        for (int cell = 0; cell < 36; cell++) {
            Check.due("cell(" + cell + ", 0) of a new object", x.cell(cell, 0), 600);
        }
        for (int joint = 0; joint < 60; joint++) {
            Check.due("joint(" + joint + ", 2) of a new object", x.joint(joint, 2), 1);
            Check.due("joint(" + joint + ", 3) of a new object", x.joint(joint, 3), 100);
        }
        Check.due("undo() of a new object", x.undo(), IMPOSSIBLE);
        Check.due("restore() of a new object", x.restore(), IMPOSSIBLE);
    }

    private static void begin() {
        ColdPanes x = new ColdPanes();
        Check.due("begin(-1)", x.begin(-1), BAD);
        Check.due("begin(1001)", x.begin(1001), BAD);
        Check.due("states behind errors", x.count(16), 0);
        Check.due("begin(0)", x.begin(0), 0);
        Check.due("furnace", x.count(0), 0);
        Check.due("aim", x.count(1), 0);
        Check.due("begin(1000)", x.begin(1000), 36000);
        Check.due("furnace", x.count(0), 1000);
        Check.due("aim", x.count(1), 1000);
        Check.due("states", x.count(16), 2);
    }

    private static void beginForgetsThePaneAlone() {
        ColdPanes x = Check.still();
        x.set(ColdPanes.RIM, 3);
        x.heat(14, 150);
        x.scratch(59, 7);
        x.aim(100, 33);
        Check.due("pass(2)", x.pass(2), 2);
        Check.dueTrue("there is a loss", x.count(5) != 0);
        Check.due("begin(300)", x.begin(300), 10800);
        int[] due = {300, 300, 33, 0, 10800, 0, 0, 300, 300, 0, 100, 36, 0, 3, 0};
        for (int what = 0; what < due.length; what++) {
            Check.due("count(" + what + ") of a pane begun with", x.count(what), due[what]);
        }
        Check.due("joint(59, 3)", x.joint(59, 3), 100);
        Check.due("joint(11, 2)", x.joint(11, 2), 1);
        Check.due("joint(11, 5)", x.joint(11, 5), NOTHING);
    }

    private static void aim() {
        ColdPanes x = new ColdPanes();
        Check.due("aim(-1, 1)", x.aim(-1, 1), BAD);
        Check.due("aim(1001, 1)", x.aim(1001, 1), BAD);
        Check.due("aim(0, 0)", x.aim(0, 0), BAD);
        Check.due("aim(0, 101)", x.aim(0, 101), BAD);
        Check.due("aim behind errors", x.count(1), 600);
        Check.due("rate behind errors", x.count(2), 10);
        Check.due("aim(0, 1)", x.aim(0, 1), 600);
        Check.due("rate", x.count(2), 1);
        Check.due("aim(1000, 100)", x.aim(1000, 100), 0);
        Check.due("aim", x.count(1), 1000);
        Check.due("rate", x.count(2), 100);
        Check.due("furnace", x.count(0), 600);
    }

    private static void furnaceGoesToItsAim() {
        ColdPanes x = Check.still();
        x.aim(585, 10);
        x.pass(1);
        Check.due("furnace down", x.count(0), 590);
        x.pass(1);
        Check.due("furnace not beyond", x.count(0), 585);
        x.aim(600, 7);
        x.pass(2);
        Check.due("furnace up", x.count(0), 599);
        x.pass(9);
        Check.due("furnace not beyond", x.count(0), 600);
        Check.due("loss without RIM", x.count(5), 0);
    }

    private static void pass() {
        ColdPanes x = Check.still();
        Check.due("pass(0)", x.pass(0), BAD);
        Check.due("pass(100)", x.pass(100), BAD);
        Check.due("minutes behind errors", x.count(3), 0);
        Check.due("pass(1)", x.pass(1), 0);
        Check.due("pass(99)", x.pass(99), 0);
        Check.due("minutes", x.count(3), 100);
        x.heat(14, 101);
        Check.due("pass(3)", x.pass(3), 3);
        Check.due("pass(3)", x.pass(3), 1);
    }

    private static void flowOverJoints() {
        ColdPanes x = new ColdPanes();
        x.set(ColdPanes.RIM, 0);
        x.heat(14, 100);
        x.pass(1);
        Check.due("the hot cell", x.cell(14, 0), 660);
        for (int cell : new int[] {8, 13, 15, 20}) {
            Check.due("a cell beside it", x.cell(cell, 0), 610);
        }
        Check.due("a cell farther away", x.cell(7, 0), 600);
        Check.due("sum", x.count(4), 21700);
    }

    private static void flowIsRoundedTowardsZero() {
        ColdPanes x = new ColdPanes();
        x.set(ColdPanes.RIM, 0);
        x.heat(14, 19);
        x.pass(1);
        Check.due("from the first cell", x.cell(14, 0), 615);
        ColdPanes y = new ColdPanes();
        y.set(ColdPanes.RIM, 0);
        y.heat(14, -19);
        y.pass(1);
        Check.due("to the first cell", y.cell(14, 0), 585);
        ColdPanes z = new ColdPanes();
        z.set(ColdPanes.RIM, 0);
        z.heat(14, -9);
        z.pass(99);
        Check.due("too little to flow", z.cell(14, 0), 591);
    }

    private static void flowGoesByHeatsAheadOfTheMinute() {
        ColdPanes x = new ColdPanes();
        x.set(ColdPanes.RIM, 0);
        x.set(ColdPanes.LEAD, 20);
        x.heat(0, 100);
        x.pass(1);
        Check.due("cell 0", x.cell(0, 0), 660);
        Check.due("cell 1", x.cell(1, 0), 620);
        Check.due("cell 2", x.cell(2, 0), 600);
        Check.due("cell 6", x.cell(6, 0), 620);
        Check.due("cell 7", x.cell(7, 0), 600);
    }

    private static void flowAtTheRim() {
        ColdPanes x = new ColdPanes();
        x.aim(500, 100);
        x.pass(1);
        Check.due("a corner", x.cell(0, 0), 584);
        Check.due("a corner", x.cell(35, 0), 584);
        Check.due("an edge", x.cell(1, 0), 592);
        Check.due("an edge", x.cell(17, 0), 592);
        Check.due("within", x.cell(7, 0), 600);
        Check.due("loss", x.count(5), 24 * 8);
        ColdPanes y = new ColdPanes();
        y.set(ColdPanes.RIM, 5);
        y.aim(570, 100);
        y.pass(1);
        Check.due("a corner, each side rounded by itself", y.cell(5, 0), 598);
        Check.due("loss", y.count(5), 24);
        ColdPanes z = new ColdPanes();
        z.set(ColdPanes.RIM, 5);
        z.aim(630, 100);
        z.pass(1);
        Check.due("a corner of a colder pane", z.cell(30, 0), 602);
        Check.due("loss below 0", z.count(5), -24);
    }

    private static void noFlowOverCrackedJoints() {
        ColdPanes x = Check.still();
        x.heat(0, 150);
        Check.due("pass(2)", x.pass(2), 2);
        x.set(ColdPanes.LEAD, 20);
        x.pass(9);
        Check.due("a cell with no whole joint", x.cell(0, 0), 750);
        x.mend(0);
        x.pass(1);
        Check.due("behind its mending", x.cell(0, 0), 720);
    }

    private static void crackOfTheMostStrained() {
        ColdPanes x = Check.still();
        x.heat(14, 100);
        Check.due("stress as great as the strength", x.pass(9), 0);
        x.heat(14, 1);
        Check.due("one joint a minute", x.pass(1), 1);
        Check.due("of several the least number", x.joint(11, 2), 0);
        Check.due("the others", x.count(6), 1);
        ColdPanes y = Check.still();
        y.heat(14, 101);
        y.scratch(44, 98);
        y.scratch(38, 99);
        Check.due("pass(1)", y.pass(1), 1);
        Check.due("the most above its strength", y.joint(44, 2), 0);
        Check.due("the minute", y.joint(44, 5), 1);
        ColdPanes z = Check.still();
        z.heat(0, 120);
        z.heat(35, 110);
        z.scratch(29, 80);
        Check.due("pass(1)", z.pass(1), 1);
        Check.due("not the greatest stress, but the most above", z.joint(29, 2), 0);
    }

    private static void weakening() {
        ColdPanes x = Check.still();
        x.scratch(12, 19);
        x.scratch(38, 1);
        x.scratch(6, 150);
        x.scratch(5, 111);
        x.heat(13, 180);
        // Cell 13 has the joints 10, 11, 37 and 43, of the same stress.
        Check.due("pass(1)", x.pass(1), 1);
        Check.due("joint(10, 2)", x.joint(10, 2), 0);
        Check.due("the cracked one keeps its strength", x.joint(10, 3), 100);
        Check.due("one that touches it", x.joint(11, 3), 90);
        Check.due("one that touches it at the other cell", x.joint(36, 3), 90);
        Check.due("one that does not", x.joint(12, 3), 19);
        Check.due("pass(1)", x.pass(1), 1);
        Check.due("joint(11, 2)", x.joint(11, 2), 0);
        Check.due("joint(11, 3)", x.joint(11, 3), 90);
        Check.due("a cracked one stays as it cracked", x.joint(10, 3), 100);
        Check.due("9 tenths, rounded", x.joint(12, 3), 17);
        Check.due("at least 1", x.joint(38, 3), 1);
        Check.due("touched twice", x.joint(37, 3), 81);
        Check.due("beside neither", x.joint(6, 3), 150);
        Check.due("beside neither", x.joint(5, 3), 111);
    }

    private static void weakeningOfTheFirstJoint() {
        ColdPanes x = Check.still();
        x.scratch(30, 10);
        x.heat(0, 99);
        Check.due("pass(1)", x.pass(1), 1);
        Check.due("joint(30, 2)", x.joint(30, 2), 0);
        Check.due("joint(0, 3)", x.joint(0, 3), 90);
        Check.due("joint(36, 3)", x.joint(36, 3), 90);
        Check.due("joint(1, 3)", x.joint(1, 3), 100);
        Check.due("joint(5, 3)", x.joint(5, 3), 90);
    }

    private static void scratch() {
        ColdPanes x = Check.still();
        Check.due("scratch(-1, 1)", x.scratch(-1, 1), BAD);
        Check.due("scratch(60, 1)", x.scratch(60, 1), BAD);
        Check.due("scratch(0, 0)", x.scratch(0, 0), BAD);
        Check.due("scratch(0, 501)", x.scratch(0, 501), BAD);
        Check.due("states behind errors", x.count(16), 2);
        Check.due("scratch(0, 500)", x.scratch(0, 500), 100);
        Check.due("scratch(0, 1)", x.scratch(0, 1), 500);
        Check.due("scratch(59, 2)", x.scratch(59, 2), 100);
        Check.due("joint(0, 3)", x.joint(0, 3), 1);
        Check.due("joint(59, 3)", x.joint(59, 3), 2);
        x.heat(0, 2);
        x.pass(1);
        Check.due("scratch of a cracked joint", x.scratch(0, 5), IMPOSSIBLE);
        Check.due("scratch with two errors", x.scratch(0, 501), BAD);
        Check.due("joint(0, 3)", x.joint(0, 3), 1);
    }

    private static void mend() {
        ColdPanes x = Check.still();
        Check.due("mend(-1)", x.mend(-1), BAD);
        Check.due("mend(60)", x.mend(60), BAD);
        Check.due("mend of a whole joint", x.mend(0), IMPOSSIBLE);
        Check.due("states behind errors", x.count(16), 2);
        x.heat(0, 101);
        x.pass(2);
        Check.due("cracked", x.count(6), 2);
        Check.due("mend(30)", x.mend(30), 1);
        Check.due("joint(30, 2)", x.joint(30, 2), 1);
        Check.due("joint(30, 3)", x.joint(30, 3), 50);
        Check.due("joint(30, 5)", x.joint(30, 5), NOTHING);
        Check.due("mend(0)", x.mend(0), 0);
        Check.due("mend(0)", x.mend(0), IMPOSSIBLE);
        Check.due("mended joints crack again", x.pass(9), 2);
    }

    private static void heat() {
        ColdPanes x = new ColdPanes();
        Check.due("heat(-1, 0)", x.heat(-1, 0), BAD);
        Check.due("heat(36, 0)", x.heat(36, 0), BAD);
        Check.due("heat(0, -201)", x.heat(0, -201), BAD);
        Check.due("heat(0, 201)", x.heat(0, 201), BAD);
        Check.due("states behind errors", x.count(16), 0);
        x.begin(1000);
        Check.due("heat(35, 200)", x.heat(35, 200), 1200);
        Check.due("heat(35, 0)", x.heat(35, 0), 1200);
        Check.due("flames", x.count(14), 200);
        Check.due("states", x.count(16), 3);
        x.begin(150);
        Check.due("flames", x.count(14), 0);
        Check.due("heat(0, -200)", x.heat(0, -200), 0);
        Check.due("what flames took", x.count(14), -150);
        Check.due("heat(0, 20)", x.heat(0, 20), 20);
        Check.due("what flames took", x.count(14), -130);
    }

    private static void set() {
        ColdPanes x = new ColdPanes();
        Check.due("set(-1, 0)", x.set(-1, 0), BAD);
        Check.due("set(2, 0)", x.set(2, 0), BAD);
        Check.due("set(0, -1)", x.set(0, -1), BAD);
        Check.due("set(1, 21)", x.set(1, 21), BAD);
        Check.due("states behind errors", x.count(16), 0);
        Check.due("set(0, 20)", x.set(0, 20), 10);
        Check.due("set(1, 0)", x.set(1, 0), 8);
        Check.due("set(0, 0)", x.set(0, 0), 20);
        Check.due("set(1, 20)", x.set(1, 20), 0);
        Check.due("count(12)", x.count(12), 0);
        Check.due("count(13)", x.count(13), 20);
    }
}
