/** The boundary cases that promises 1 to 8 name; each test bears the words that it holds to. */
public final class PaneEdgeTest {
    private static final int IMPOSSIBLE = ColdPanes.NOT_POSSIBLE;
    private static final int NOTHING = ColdPanes.NOT_FOUND;
    private static final int[] FAR = {Integer.MIN_VALUE, Integer.MAX_VALUE};

    public static void main(String[] arguments) {
        aNewObject();
        aNewObjectHasNothingKept();
        heatOfBegin();
        beginForgetsAnOldPane();
        rateAndSettingsStayInBegin();
        beginLeavesPadAndSnapshot();
        heatOfAim();
        rateOfAim();
        bothOfAim();
        aimBefore();
        minutesOfPass();
        cracksOfPass();
        jointOfScratch();
        strengthOfScratch();
        scratchOfACrackedJoint();
        jointOfMend();
        mendOfAWholeJoint();
        strengthOfAMendedJoint();
        crackedStill();
        cellOfHeat();
        byOfHeat();
        heatAtLeastToNothing();
        heatHasNoGreatest();
        whatOfSet();
        valueOfSet();
        bothOfSet();
        Check.end();
    }

    /** "Creates a pane of the heat 600 in a furnace of the same heat." */
    private static void aNewObject() {
        ColdPanes x = new ColdPanes();
        int[] due = {600, 600, 10, 0, 36 * 600, 0, 0, 600, 600, 0, 100, 36, 10, 8, 0, 0, 0};
        for (int what = 0; what < due.length; what++) {
            Check.due("count(" + what + ")", x.count(what), due[what]);
        }
        Check.due("pass(99) at the same heat", x.pass(99), 0);
        Check.due("count(4)", x.count(4), 36 * 600);
        Check.due("count(5)", x.count(5), 0);
    }

    private static void aNewObjectHasNothingKept() {
        Refused.in(ColdPanes::new, "undo()", ColdPanes::undo, IMPOSSIBLE);
        Refused.in(ColdPanes::new, "restore()", ColdPanes::restore, IMPOSSIBLE);
        Refused.in(ColdPanes::new, "run()", ColdPanes::run, IMPOSSIBLE);
        ColdPanes used = new ColdPanes();
        used.begin(3);
        used.save();
        used.append('h');
        ColdPanes fresh = new ColdPanes();
        Check.due("another object's furnace", fresh.count(0), 600);
        Check.due("another object's history", fresh.count(16), 0);
        Check.due("another object's pad", fresh.count(15), 0);
        Check.due("another object's snapshot", fresh.restore(), IMPOSSIBLE);
    }

    /** "heat: 0 to 1000"; "Returns the sum of the heats of all cells". */
    private static void heatOfBegin() {
        ColdPanes x = new ColdPanes();
        for (int heat : new int[] {0, 1, 999, 1000}) {
            Check.due("begin(" + heat + ")", x.begin(heat), 36 * heat);
            Check.due("furnace", x.count(0), heat);
            Check.due("aim", x.count(1), heat);
            Check.due("greatest heat", x.count(7), heat);
            Check.due("least heat", x.count(8), heat);
        }
        Refused.asInvalid("begin(-1)", y -> y.begin(-1));
        Refused.asInvalid("begin(1001)", y -> y.begin(1001));
        for (int far : FAR) {
            Refused.asInvalid("begin(" + far + ")", y -> y.begin(far));
        }
    }

    /** "all joints are whole, with the strength 100; no minutes have passed, the loss is 0, and so is what flames gave". */
    private static void beginForgetsAnOldPane() {
        ColdPanes x = Refused.lively();
        Check.due("begin(40)", x.begin(40), 1440);
        for (int joint = 0; joint < 60; joint++) {
            Check.due("joint(" + joint + ", 2)", x.joint(joint, 2), 1);
            Check.due("joint(" + joint + ", 3)", x.joint(joint, 3), 100);
            Check.due("joint(" + joint + ", 5)", x.joint(joint, 5), NOTHING);
        }
        Check.due("minutes", x.count(3), 0);
        Check.due("loss", x.count(5), 0);
        Check.due("flames", x.count(14), 0);
        Check.due("cracked", x.count(6), 0);
        ColdPanes y = Check.shattered();
        Check.due("begin(1000) of shards", y.begin(1000), 36000);
        Check.due("cracked", y.count(6), 0);
        Check.due("pieces", y.pieces(0), 1);
        y.heat(0, 101);
        Check.due("pass(1)", y.pass(1), 1);
        Check.due("minutes are counted from 1 on again", y.joint(0, 5), 1);
    }

    /** "The rate and the settings stay." */
    private static void rateAndSettingsStayInBegin() {
        for (int rate : new int[] {1, 100}) {
            ColdPanes x = new ColdPanes();
            x.aim(3, rate);
            x.set(ColdPanes.LEAD, rate == 1 ? 0 : 20);
            x.set(ColdPanes.RIM, rate == 1 ? 20 : 0);
            x.begin(500);
            Check.due("rate", x.count(2), rate);
            Check.due("LEAD", x.count(12), rate == 1 ? 0 : 20);
            Check.due("RIM", x.count(13), rate == 1 ? 20 : 0);
        }
    }

    private static void beginLeavesPadAndSnapshot() {
        ColdPanes x = new ColdPanes();
        x.heat(0, 5);
        x.save();
        Check.write(x, "h7");
        x.begin(10);
        Check.due("length", x.count(15), 2);
        Check.due("run()", x.run(), 1);
        Check.due("minutes", x.count(3), 7);
        Check.due("restore()", x.restore(), 0);
        Check.due("the snapshot", x.cell(0, 0), 605);
    }

    /** "heat: 0 to 1000". */
    private static void heatOfAim() {
        ColdPanes x = new ColdPanes();
        Check.due("aim(0, 10)", x.aim(0, 10), 600);
        Check.due("aim(1000, 10)", x.aim(1000, 10), 0);
        Check.due("aim", x.count(1), 1000);
        Check.due("the furnace is as it was", x.count(0), 600);
        Refused.asInvalid("aim(-1, 10)", y -> y.aim(-1, 10));
        Refused.asInvalid("aim(1001, 10)", y -> y.aim(1001, 10));
        for (int far : FAR) {
            Refused.asInvalid("aim(" + far + ", 10)", y -> y.aim(far, 10));
        }
    }

    /** "rate: 1 to 100". */
    private static void rateOfAim() {
        ColdPanes x = new ColdPanes();
        Check.due("aim(500, 1)", x.aim(500, 1), 600);
        Check.due("rate", x.count(2), 1);
        Check.due("aim(500, 100)", x.aim(500, 100), 500);
        Check.due("rate", x.count(2), 100);
        Refused.asInvalid("aim(500, 0)", y -> y.aim(500, 0));
        Refused.asInvalid("aim(500, 101)", y -> y.aim(500, 101));
        Refused.asInvalid("aim(500, -1)", y -> y.aim(500, -1));
        for (int far : FAR) {
            Refused.asInvalid("aim(500, " + far + ")", y -> y.aim(500, far));
        }
    }

    private static void bothOfAim() {
        Refused.asInvalid("aim(-1, 0)", y -> y.aim(-1, 0));
        Refused.asInvalid("aim(1001, 101)", y -> y.aim(1001, 101));
        ColdPanes x = new ColdPanes();
        Check.due("aim(0, 100)", x.aim(0, 100), 600);
        Check.due("aim(1000, 1)", x.aim(1000, 1), 0);
        Check.due("aim(0, 1)", x.aim(0, 1), 1000);
        Check.due("aim(1000, 100)", x.aim(1000, 100), 0);
    }

    /** "Returns the aim before": not the heat of the furnace. */
    private static void aimBefore() {
        ColdPanes x = new ColdPanes();
        x.aim(0, 100);
        x.pass(1);
        Check.due("aim(700, 5) on the way", x.aim(700, 5), 0);
        Check.due("furnace", x.count(0), 500);
        Check.due("aim(700, 5) once more", x.aim(700, 5), 700);
    }

    /** "minutes: 1 to 99". */
    private static void minutesOfPass() {
        ColdPanes x = new ColdPanes();
        Check.due("pass(1)", x.pass(1), 0);
        Check.due("minutes", x.count(3), 1);
        Check.due("pass(99)", x.pass(99), 0);
        Check.due("minutes", x.count(3), 100);
        for (int minutes : new int[] {0, 100, -1, FAR[0], FAR[1]}) {
            Refused.asInvalid("pass(" + minutes + ")", y -> y.pass(minutes));
        }
        ColdPanes z = Check.still();
        z.aim(1000, 4);
        z.pass(99);
        Check.due("the furnace in 99 minutes", z.count(0), 600 + 99 * 4);
    }

    /** "Returns how many joints crack in them": none, one in each, all. */
    private static void cracksOfPass() {
        ColdPanes x = Check.still();
        x.heat(14, 100);
        Check.due("none", x.pass(99), 0);
        x.heat(14, 1);
        Check.due("one", x.pass(1), 1);
        Check.due("those of these minutes alone", x.pass(2), 2);
        Check.due("the last one", x.pass(99), 1);
        Check.due("no more", x.pass(99), 0);
        ColdPanes y = checkered();
        Check.due("59 of 60", y.pass(59), 59);
        Check.due("the last of 60", y.pass(1), 1);
        Check.due("no more", y.pass(1), 0);
        Check.due("60 of 60 in 99 minutes", checkered().pass(99), 60);
    }

    private static ColdPanes checkered() {
        ColdPanes x = Check.shattered();
        for (int joint = 0; joint < 60; joint++) {
            Check.due("mend(" + joint + ")", x.mend(joint), 59 - joint);
        }
        return x;
    }

    /** "joint: 0 to 59". */
    private static void jointOfScratch() {
        ColdPanes x = new ColdPanes();
        Check.due("scratch(0, 50)", x.scratch(0, 50), 100);
        Check.due("scratch(59, 51)", x.scratch(59, 51), 100);
        Check.due("joint(0, 3)", x.joint(0, 3), 50);
        Check.due("joint(59, 3)", x.joint(59, 3), 51);
        Check.due("joint(1, 3)", x.joint(1, 3), 100);
        Check.due("joint(58, 3)", x.joint(58, 3), 100);
        for (int joint : new int[] {-1, 60, FAR[0], FAR[1]}) {
            Refused.asInvalid("scratch(" + joint + ", 50)", y -> y.scratch(joint, 50));
            Refused.asInvalid("scratch(" + joint + ", 0)", y -> y.scratch(joint, 0));
        }
    }

    /** "strength: 1 to 500"; "Returns the strength before". */
    private static void strengthOfScratch() {
        ColdPanes x = new ColdPanes();
        Check.due("scratch(20, 1)", x.scratch(20, 1), 100);
        Check.due("scratch(20, 500)", x.scratch(20, 500), 1);
        Check.due("scratch(20, 500)", x.scratch(20, 500), 500);
        Check.due("scratch(20, 499)", x.scratch(20, 499), 500);
        for (int strength : new int[] {0, 501, -1, FAR[0], FAR[1]}) {
            Refused.asInvalid("scratch(37, " + strength + ")", y -> y.scratch(37, strength));
        }
    }

    /** "NOT_POSSIBLE if it is cracked"; "INVALID_ARGUMENT is returned rather than NOT_POSSIBLE". */
    private static void scratchOfACrackedJoint() {
        for (int strength : new int[] {1, 500}) {
            Refused.in(Refused::lively, "scratch(0, " + strength + ")", y -> y.scratch(0, strength), IMPOSSIBLE);
            Refused.in(Refused::shards, "scratch(59, " + strength + ")", y -> y.scratch(59, strength), IMPOSSIBLE);
        }
        for (int strength : new int[] {0, 501}) {
            Refused.asInvalid("scratch(0, " + strength + ")", y -> y.scratch(0, strength));
        }
        ColdPanes x = Check.shattered();
        x.mend(59);
        Check.due("scratch of a mended joint", x.scratch(59, 3), 50);
    }

    /** "joint: 0 to 59". */
    private static void jointOfMend() {
        for (int joint : new int[] {0, 29, 30, 59}) {
            ColdPanes x = Check.shattered();
            Check.due("mend(" + joint + ")", x.mend(joint), 59);
            Check.due("joint(" + joint + ", 2)", x.joint(joint, 2), 1);
            Check.due("pieces", x.pieces(0), 35);
        }
        for (int joint : new int[] {-1, 60, FAR[0], FAR[1]}) {
            Refused.asInvalid("mend(" + joint + ")", y -> y.mend(joint));
        }
    }

    /** "NOT_POSSIBLE if it is whole". */
    private static void mendOfAWholeJoint() {
        for (int joint : new int[] {0, 59}) {
            Refused.in(ColdPanes::new, "mend(" + joint + ")", y -> y.mend(joint), IMPOSSIBLE);
        }
        Refused.in(Refused::lively, "mend(37)", y -> y.mend(37), IMPOSSIBLE);
        Refused.in(PaneEdgeTest::mendedAtNothing, "mend(0) once more", y -> y.mend(0), IMPOSSIBLE);
    }

    private static ColdPanes mendedAtNothing() {
        ColdPanes x = Refused.lively();
        x.mend(0);
        return x;
    }

    /** "it is whole, with half of the strength 100": whatever strength it had. */
    private static void strengthOfAMendedJoint() {
        for (int strength : new int[] {1, 99, 100, 199}) {
            ColdPanes x = Check.still();
            x.scratch(0, strength);
            x.scratch(30, 500);
            x.heat(0, 200);
            Check.due("pass(1)", x.pass(1), 1);
            Check.due("mend(0)", x.mend(0), 0);
            Check.due("joint(0, 3)", x.joint(0, 3), 50);
            Check.due("joint(0, 5)", x.joint(0, 5), NOTHING);
            Check.due("its neighbour does not become stronger", x.joint(30, 3), 450);
            x.heat(0, -150);
            Check.due("pass(1) with a stress of 50", x.pass(1), 0);
            x.heat(0, 1);
            Check.due("pass(1) with a stress of 51", x.pass(1), 1);
        }
    }

    /** "Returns how many joints are cracked still". */
    private static void crackedStill() {
        ColdPanes x = Check.shattered();
        for (int left = 59; left >= 0; left--) {
            Check.due("mend(" + left + ")", x.mend(left), left);
            Check.due("cracked", x.count(6), left);
        }
    }

    /** "cell: 0 to 35". */
    private static void cellOfHeat() {
        ColdPanes x = new ColdPanes();
        Check.due("heat(0, 3)", x.heat(0, 3), 603);
        Check.due("heat(35, -4)", x.heat(35, -4), 596);
        Check.due("cell(0, 0)", x.cell(0, 0), 603);
        Check.due("cell(35, 0)", x.cell(35, 0), 596);
        Check.due("sum", x.count(4), 21599);
        for (int cell : new int[] {-1, 36, FAR[0], FAR[1]}) {
            Refused.asInvalid("heat(" + cell + ", 3)", y -> y.heat(cell, 3));
        }
    }

    /** "by: -200 to 200: by how much its heat grows". */
    private static void byOfHeat() {
        ColdPanes x = new ColdPanes();
        Check.due("heat(7, 200)", x.heat(7, 200), 800);
        Check.due("flames", x.count(14), 200);
        Check.due("heat(7, -200)", x.heat(7, -200), 600);
        Check.due("flames", x.count(14), 0);
        Check.due("heat(7, 0)", x.heat(7, 0), 600);
        Check.due("heat(7, 0) is a change", x.count(16), 3);
        for (int by : new int[] {-201, 201, FAR[0], FAR[1]}) {
            Refused.asInvalid("heat(7, " + by + ")", y -> y.heat(7, by));
            Refused.asInvalid("heat(36, " + by + ")", y -> y.heat(36, by));
        }
    }

    /** "at least to 0"; "Returns its heat then". */
    private static void heatAtLeastToNothing() {
        for (int heat : new int[] {0, 1, 199, 200, 201}) {
            ColdPanes x = new ColdPanes();
            x.begin(heat);
            int due = heat > 200 ? heat - 200 : 0;
            Check.due("heat(9, -200) at " + heat, x.heat(9, -200), due);
            Check.due("cell(9, 0)", x.cell(9, 0), due);
            Check.due("flames took what there was", x.count(14), due - heat);
        }
        ColdPanes y = new ColdPanes();
        y.begin(0);
        Check.due("heat(9, -1)", y.heat(9, -1), 0);
        Check.due("flames", y.count(14), 0);
        Check.due("a change though nothing is different", y.count(16), 2);
        Check.due("heat(9, 1)", y.heat(9, 1), 1);
    }

    /** A flame may make a cell hotter than a furnace can be: the document names no greatest heat of a cell. */
    private static void heatHasNoGreatest() {
        ColdPanes x = new ColdPanes();
        x.begin(1000);
        Check.due("heat(9, 1)", x.heat(9, 1), 1001);
        Check.due("heat(9, 200)", x.heat(9, 200), 1201);
        for (int flames = 1; flames <= 400; flames++) {
            x.heat(9, 200);
        }
        Check.due("cell(9, 0)", x.cell(9, 0), 81201);
        x.set(ColdPanes.LEAD, 20);
        Check.due("pass(1)", x.pass(1), 1);
        Check.due("a fifth over each of four joints", x.cell(9, 0), 81201 - 4 * (80201 / 5));
    }

    /** "what: 0 or 1"; "LEAD = 0, RIM = 1: Numbers of the settings." */
    private static void whatOfSet() {
        ColdPanes x = new ColdPanes();
        Check.due("set(0, 7)", x.set(0, 7), 10);
        Check.due("set(1, 3)", x.set(1, 3), 8);
        Check.due("count(12)", x.count(12), 7);
        Check.due("count(13)", x.count(13), 3);
        for (int what : new int[] {-1, 2, FAR[0], FAR[1]}) {
            Refused.asInvalid("set(" + what + ", 7)", y -> y.set(what, 7));
        }
    }

    /** "value: 0 to 20"; "Returns the value before". */
    private static void valueOfSet() {
        ColdPanes x = new ColdPanes();
        for (int what = 0; what <= 1; what++) {
            x.set(what, 20);
            Check.due("set(" + what + ", 0)", x.set(what, 0), 20);
            Check.due("set(" + what + ", 20)", x.set(what, 20), 0);
            Check.due("set(" + what + ", 20)", x.set(what, 20), 20);
            for (int value : new int[] {-1, 21, FAR[0], FAR[1]}) {
                int setting = what;
                Refused.asInvalid("set(" + what + ", " + value + ")", y -> y.set(setting, value));
            }
        }
    }

    private static void bothOfSet() {
        Refused.asInvalid("set(2, 21)", y -> y.set(2, 21));
        Refused.asInvalid("set(-1, -1)", y -> y.set(-1, -1));
    }
}
