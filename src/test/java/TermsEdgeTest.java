/** The boundary cases that the document's terms name; each test bears the words that it holds to. */
public final class TermsEdgeTest {
    private static final int NOTHING = ColdPanes.NOT_FOUND;

    public static void main(String[] arguments) {
        numbersOfCells();
        heatsAtFirst();
        numbersOfJoints();
        rowsDoNotWrapAround();
        jointsAtFirst();
        strengths();
        touchingJoints();
        theFurnaceAtFirst();
        furnaceNotBeyondTheAimBelow();
        furnaceNotBeyondTheAimAbove();
        furnaceByTheLeastAndTheGreatestRate();
        furnaceToTheLeastAndTheGreatestAim();
        heatsAheadOfTheMinute();
        furnaceAsItIsThen();
        jointFlowIsRoundedTowardsZero();
        rimFlowIsRoundedTowardsZero();
        eachSideIsRoundedByItself();
        flowWithTheLeastAndTheGreatestSettings();
        noFlowOverACrackedJoint();
        sidesAtTheRim();
        lossIsAddedUp();
        stressBehindTheFlow();
        stressIsAboveTheStrengthOrNot();
        theMostAboveCracks();
        ofSeveralTheLeastNumber();
        neighboursBecomeWeaker();
        nineTenthsAtLeastOne();
        aCrackedNeighbourStaysAsItIs();
        oneJointInAMinute();
        piecesOverWholeJoints();
        pieceOfACellAlone();
        settingsAtFirst();
        Check.end();
    }

    /** "the cell at a row and a column has the number 6 * row + column, 0 to 35". */
    private static void numbersOfCells() {
        ColdPanes x = new ColdPanes();
        for (int cell : new int[] {0, 35}) {
            Check.due("cell(" + cell + ", 0)", x.cell(cell, 0), 600);
            Check.due("heat(" + cell + ", 1)", x.heat(cell, 1), 601);
        }
        for (int cell : new int[] {-1, 36}) {
            Refused.asInvalid("cell(" + cell + ", 0)", y -> y.cell(cell, 0));
            Refused.asInvalid("heat(" + cell + ", 1)", y -> y.heat(cell, 1));
            Check.dueMean("mean(" + cell + ")", x.mean(cell), -1.0);
        }
    }

    /** "Each cell has a heat, 600 at first." */
    private static void heatsAtFirst() {
        ColdPanes x = new ColdPanes();
        for (int cell = 0; cell < 36; cell++) {
            Check.due("cell(" + cell + ", 0)", x.cell(cell, 0), 600);
        }
    }

    /** "0 to 29: the joint 5 * row + column .. 30 to 59: the joint 30 + 6 * row + column", at both ends of each. */
    private static void numbersOfJoints() {
        dueEnds(0, 0, 1);
        dueEnds(4, 4, 5);
        dueEnds(5, 6, 7);
        dueEnds(9, 10, 11);
        dueEnds(25, 30, 31);
        dueEnds(29, 34, 35);
        dueEnds(30, 0, 6);
        dueEnds(35, 5, 11);
        dueEnds(36, 6, 12);
        dueEnds(54, 24, 30);
        dueEnds(59, 29, 35);
        Refused.asInvalid("joint(-1, 0)", y -> y.joint(-1, 0));
        Refused.asInvalid("joint(60, 0)", y -> y.joint(60, 0));
        Refused.asInvalid("joint(-1, 1)", y -> y.joint(-1, 1));
        Refused.asInvalid("joint(60, 1)", y -> y.joint(60, 1));
    }

    private static void dueEnds(int joint, int first, int second) {
        ColdPanes x = new ColdPanes();
        Check.due("joint(" + joint + ", 0)", x.joint(joint, 0), first);
        Check.due("joint(" + joint + ", 1)", x.joint(joint, 1), second);
    }

    /** "Two cells side by side, or above one another, are joined": not the last of a row and the first of the next. */
    private static void rowsDoNotWrapAround() {
        for (int row = 0; row < 5; row++) {
            int last = 6 * row + 5;
            ColdPanes x = new ColdPanes();
            x.set(ColdPanes.RIM, 0);
            x.heat(last, 100);
            Check.due("pass(1)", x.pass(1), 0);
            Check.due("the cell ahead of cell " + last, x.cell(last - 1, 0), 610);
            Check.due("the cell below cell " + last, x.cell(last + 6, 0), 610);
            Check.due("the first cell of the next row", x.cell(last + 1, 0), 600);
            Check.due("joints of cell " + last, x.cell(last, 2), row == 0 ? 2 : 3);
            Check.due("joints of cell " + (last + 1), x.cell(last + 1, 2), row == 4 ? 2 : 3);
        }
        ColdPanes y = new ColdPanes();
        y.set(ColdPanes.RIM, 0);
        y.heat(30, 100);
        y.pass(1);
        Check.due("the cell above the last row", y.cell(24, 0), 610);
        Check.due("the first row", y.cell(0, 0), 600);
    }

    /** "A joint is whole or cracked (whole at first), and has a strength, 1 to 500, 100 at first." */
    private static void jointsAtFirst() {
        ColdPanes x = new ColdPanes();
        for (int joint = 0; joint < 60; joint++) {
            Check.due("joint(" + joint + ", 2)", x.joint(joint, 2), 1);
            Check.due("joint(" + joint + ", 3)", x.joint(joint, 3), 100);
            Check.due("joint(" + joint + ", 5)", x.joint(joint, 5), NOTHING);
        }
    }

    /** "has a strength, 1 to 500". */
    private static void strengths() {
        ColdPanes x = new ColdPanes();
        Check.due("scratch(7, 1)", x.scratch(7, 1), 100);
        Check.due("joint(7, 3)", x.joint(7, 3), 1);
        Check.due("scratch(7, 500)", x.scratch(7, 500), 1);
        Check.due("joint(7, 3)", x.joint(7, 3), 500);
        Refused.asInvalid("scratch(37, 0)", y -> y.scratch(37, 0));
        Refused.asInvalid("scratch(37, 501)", y -> y.scratch(37, 501));
    }

    /** "Two joints touch, if they have a cell in common." */
    private static void touchingJoints() {
        ColdPanes x = new ColdPanes();
        for (int joint = 0; joint < 60; joint++) {
            int touching = 0;
            for (int other = 0; other < 60; other++) {
                touching += other != joint && haveACellInCommon(joint, other) ? 1 : 0;
            }
            Check.due("joint(" + joint + ", 6)", x.joint(joint, 6), touching);
        }
    }

    private static boolean haveACellInCommon(int joint, int other) {
        boolean first = first(joint) == first(other) || first(joint) == second(other);
        return first || second(joint) == first(other) || second(joint) == second(other);
    }

    private static int first(int joint) {
        return joint < 30 ? joint / 5 * 6 + joint % 5 : joint - 30;
    }

    private static int second(int joint) {
        return first(joint) + (joint < 30 ? 1 : 6);
    }

    /** "The furnace has a heat, 600 at first, an aim, 0 to 1000 (600 at first), and a rate, 1 to 100 (10 at first)." */
    private static void theFurnaceAtFirst() {
        ColdPanes x = new ColdPanes();
        Check.due("count(0)", x.count(0), 600);
        Check.due("count(1)", x.count(1), 600);
        Check.due("count(2)", x.count(2), 10);
        Check.due("pass(1)", x.pass(1), 0);
        Check.due("a furnace at its aim", x.count(0), 600);
        Check.due("the rate stays", x.count(2), 10);
        Check.due("aim(0, 10)", x.aim(0, 10), 600);
        x.pass(1);
        Check.due("count(0)", x.count(0), 590);
    }

    /** "towards the aim by the rate, but not beyond the aim": the aim is nearer than, as far as, farther than the rate. */
    private static void furnaceNotBeyondTheAimBelow() {
        dueFurnace(599, 10, 1, 599);
        dueFurnace(591, 10, 1, 591);
        dueFurnace(590, 10, 1, 590);
        dueFurnace(589, 10, 1, 590);
        dueFurnace(589, 10, 2, 589);
        dueFurnace(589, 10, 3, 589);
        dueFurnace(600, 10, 1, 600);
    }

    private static void furnaceNotBeyondTheAimAbove() {
        dueFurnace(601, 10, 1, 601);
        dueFurnace(609, 10, 1, 609);
        dueFurnace(610, 10, 1, 610);
        dueFurnace(611, 10, 1, 610);
        dueFurnace(611, 10, 2, 611);
        dueFurnace(611, 10, 3, 611);
    }

    /** "a rate, 1 to 100". */
    private static void furnaceByTheLeastAndTheGreatestRate() {
        dueFurnace(0, 1, 1, 599);
        dueFurnace(0, 100, 1, 500);
        dueFurnace(1000, 1, 1, 601);
        dueFurnace(1000, 100, 1, 700);
    }

    /** "an aim, 0 to 1000". */
    private static void furnaceToTheLeastAndTheGreatestAim() {
        dueFurnace(0, 100, 5, 100);
        dueFurnace(0, 100, 6, 0);
        dueFurnace(0, 100, 7, 0);
        dueFurnace(0, 99, 7, 0);
        dueFurnace(1000, 100, 3, 900);
        dueFurnace(1000, 100, 4, 1000);
        dueFurnace(1000, 100, 5, 1000);
        dueFurnace(1000, 99, 5, 1000);
    }

    private static void dueFurnace(int aim, int rate, int minutes, int due) {
        ColdPanes x = Check.still();
        x.aim(aim, rate);
        x.pass(minutes);
        Check.due("furnace " + minutes + " minutes behind aim(" + aim + ", " + rate + ")", x.count(0), due);
    }

    /** "Then heat flows, all by the heats ahead of the minute (of the cells)". */
    private static void heatsAheadOfTheMinute() {
        ColdPanes x = new ColdPanes();
        x.set(ColdPanes.LEAD, 20);
        x.set(ColdPanes.RIM, 20);
        x.heat(0, 100);
        Check.due("pass(1)", x.pass(1), 0);
        Check.due("a corner: two joints and two sides, by 700 each", x.cell(0, 0), 700 - 4 * 20);
        Check.due("beside it: the rim by 600", x.cell(1, 0), 620);
        Check.due("farther away", x.cell(2, 0), 600);
        Check.due("below it", x.cell(6, 0), 620);
        Check.due("the loss", x.count(5), 40);
    }

    /** "and the furnace as it is then". */
    private static void furnaceAsItIsThen() {
        ColdPanes x = new ColdPanes();
        x.aim(587, 13);
        x.pass(1);
        Check.due("by the furnace at 587", x.cell(1, 0), 599);
        ColdPanes y = new ColdPanes();
        y.aim(588, 12);
        y.pass(1);
        Check.due("by the furnace at 588", y.cell(1, 0), 600);
    }

    /** "* LEAD / 100, from the first to the second cell (below 0: the other way)"; "rounded towards 0". */
    private static void jointFlowIsRoundedTowardsZero() {
        dueJointFlow(0, 0);
        dueJointFlow(9, 0);
        dueJointFlow(10, 1);
        dueJointFlow(11, 1);
        dueJointFlow(19, 1);
        dueJointFlow(20, 2);
        dueJointFlow(-9, 0);
        dueJointFlow(-10, -1);
        dueJointFlow(-11, -1);
        dueJointFlow(-19, -1);
        dueJointFlow(-20, -2);
    }

    /** The cell 35 is the second cell of its two joints, the cell 0 the first one. */
    private static void dueJointFlow(int more, int flow) {
        for (int cell : new int[] {0, 35}) {
            ColdPanes x = new ColdPanes();
            x.set(ColdPanes.RIM, 0);
            x.heat(cell, more);
            x.pass(1);
            String name = "cell " + cell + " hotter by " + more;
            Check.due(name, x.cell(cell, 0), 600 + more - 2 * flow);
            Check.due(name + ": beside it", x.cell(cell == 0 ? 1 : 34, 0), 600 + flow);
            Check.due(name + ": above or below it", x.cell(cell == 0 ? 6 : 29, 0), 600 + flow);
            Check.due(name + ": no heat is lost", x.count(4), 21600 + more);
        }
    }

    /** "(heat of the cell less that of the furnace) * RIM / 100"; "rounded towards 0". */
    private static void rimFlowIsRoundedTowardsZero() {
        dueRimFlow(0, 0);
        dueRimFlow(12, 0);
        dueRimFlow(13, 1);
        dueRimFlow(24, 1);
        dueRimFlow(25, 2);
        dueRimFlow(-12, 0);
        dueRimFlow(-13, -1);
        dueRimFlow(-24, -1);
        dueRimFlow(-25, -2);
    }

    private static void dueRimFlow(int more, int flow) {
        ColdPanes x = new ColdPanes();
        x.set(ColdPanes.LEAD, 0);
        x.heat(3, more);
        x.pass(1);
        Check.due("an edge hotter by " + more, x.cell(3, 0), 600 + more - flow);
        Check.due("the loss of an edge hotter by " + more, x.count(5), flow);
    }

    /** "at each side of a cell that is at the rim (one at the corners has two)". */
    private static void eachSideIsRoundedByItself() {
        // 1.52 at a side: 1 from each, not 3 from both.
        for (int cell : new int[] {0, 5, 30, 35}) {
            for (int sign = -1; sign <= 1; sign += 2) {
                ColdPanes x = new ColdPanes();
                x.set(ColdPanes.LEAD, 0);
                x.heat(cell, 19 * sign);
                x.pass(1);
                Check.due("a corner", x.cell(cell, 0), 600 + 17 * sign);
                Check.due("the loss at a corner", x.count(5), 2 * sign);
            }
        }
    }

    /** "LEAD (0 to 20; 10), RIM (0 to 20; 8)": flows at both ends. */
    private static void flowWithTheLeastAndTheGreatestSettings() {
        ColdPanes x = Check.still();
        x.heat(0, 100);
        x.aim(0, 100);
        Check.due("pass(3)", x.pass(3), 0);
        Check.due("no flow with 0", x.cell(0, 0), 700);
        Check.due("no loss with 0", x.count(5), 0);
        ColdPanes y = Check.still();
        y.set(ColdPanes.LEAD, 20);
        y.heat(14, 100);
        y.pass(1);
        Check.due("a fifth to each of four with 20", y.cell(14, 0), 620);
        ColdPanes z = Check.still();
        z.set(ColdPanes.RIM, 20);
        z.aim(500, 100);
        z.pass(1);
        Check.due("a fifth at a side with 20", z.cell(4, 0), 580);
        Check.due("the loss with 20", z.count(5), 480);
        ColdPanes w = Check.still();
        w.set(ColdPanes.LEAD, 1);
        w.set(ColdPanes.RIM, 1);
        w.heat(0, 100);
        w.pass(1);
        Check.due("1 over two joints and at two sides with 1", w.cell(0, 0), 696);
    }

    /** "over each whole joint". */
    private static void noFlowOverACrackedJoint() {
        ColdPanes x = Check.still();
        x.heat(0, 101);
        Check.due("pass(1)", x.pass(1), 1);
        x.set(ColdPanes.LEAD, 10);
        x.scratch(30, 500);
        x.pass(1);
        Check.due("from the corner over the joint 30 alone", x.cell(0, 0), 691);
        Check.due("nothing over the joint 0", x.cell(1, 0), 600);
        Check.due("over the joint 30", x.cell(6, 0), 610);
    }

    /** "at each side of a cell that is at the rim (one at the corners has two)". */
    private static void sidesAtTheRim() {
        ColdPanes x = new ColdPanes();
        x.set(ColdPanes.LEAD, 0);
        x.aim(500, 100);
        x.pass(1);
        for (int cell = 0; cell < 36; cell++) {
            int sides = (cell < 6 ? 1 : 0) + (cell > 29 ? 1 : 0) + (cell % 6 == 0 ? 1 : 0) + (cell % 6 == 5 ? 1 : 0);
            Check.due("cell(" + cell + ", 3)", x.cell(cell, 3), sides);
            Check.due("cell(" + cell + ", 0)", x.cell(cell, 0), 600 - 8 * sides);
        }
    }

    /** "What the furnace got is added up: the loss": also what it gave, below 0. */
    private static void lossIsAddedUp() {
        ColdPanes x = new ColdPanes();
        x.set(ColdPanes.LEAD, 0);
        x.heat(1, 25);
        x.pass(1);
        Check.due("what the furnace got", x.count(5), 2);
        x.heat(2, -38);
        x.pass(1);
        Check.due("less what it gave: 3, and 1 more that it got", x.count(5), 0);
        x.pass(1);
        Check.due("below 0", x.count(5), -1);
        Check.due("the heat of all is what is lacking", x.count(4), 21600 + 25 - 38 + 1);
    }

    /** "Then the stress of each whole joint": of the heats behind the flow. */
    private static void stressBehindTheFlow() {
        ColdPanes x = new ColdPanes();
        x.set(ColdPanes.RIM, 0);
        x.heat(14, 200);
        Check.due("count(9)", x.count(9), 200);
        Check.due("a stress of 200 that is 100 behind the flow", x.pass(1), 0);
        Check.due("count(9)", x.count(9), 100);
        ColdPanes y = new ColdPanes();
        y.set(ColdPanes.RIM, 0);
        y.heat(14, 200);
        y.heat(14, 2);
        Check.due("a stress of 202 that is 102 behind the flow", y.pass(1), 1);
        ColdPanes z = new ColdPanes();
        z.scratch(0, 7);
        z.aim(500, 100);
        Check.due("no stress that is 8 behind the flow", z.pass(1), 1);
        Check.due("joint(0, 2)", z.joint(0, 2), 0);
    }

    /** "whole joints whose stress is above their strength": not as great as it; "(0 or more)" on both sides. */
    private static void stressIsAboveTheStrengthOrNot() {
        for (int sign = -1; sign <= 1; sign += 2) {
            dueCracks(100, 100 * sign, 0);
            dueCracks(100, 101 * sign, 1);
            dueCracks(1, sign, 0);
            dueCracks(1, 2 * sign, 1);
        }
        ColdPanes x = Check.still();
        x.scratch(0, 500);
        x.scratch(30, 500);
        for (int flames = 0; flames < 5; flames++) {
            x.heat(0, 100);
        }
        Check.due("a stress of 500 with the strength 500", x.pass(99), 0);
        x.heat(0, 1);
        Check.due("a stress of 501 with the strength 500", x.pass(1), 1);
    }

    private static void dueCracks(int strength, int more, int due) {
        ColdPanes x = Check.still();
        x.scratch(30, 500);
        x.scratch(0, strength);
        x.heat(0, more);
        Check.due("stress(0)", x.joint(0, 4), Math.abs(more));
        Check.due("pass(1), " + more + " at the strength " + strength, x.pass(1), due);
        Check.due("joint(0, 2), " + more + " at the strength " + strength, x.joint(0, 2), 1 - due);
    }

    /** "the one of these of which the stress is most above its strength cracks". */
    private static void theMostAboveCracks() {
        ColdPanes x = Check.still();
        x.heat(0, 150);
        x.heat(35, 120);
        x.scratch(29, 69);
        Check.due("pass(1)", x.pass(1), 1);
        Check.due("51 above, though 120 is less than 150", x.joint(29, 2), 0);
        ColdPanes y = Check.still();
        y.heat(0, 150);
        y.heat(35, 120);
        y.scratch(29, 71);
        Check.due("pass(1)", y.pass(1), 1);
        Check.due("49 above is less than 50 above", y.joint(29, 2), 1);
        Check.due("50 above", y.joint(0, 2), 0);
    }

    /** "of several the one with the least number". */
    private static void ofSeveralTheLeastNumber() {
        ColdPanes x = Check.still();
        x.heat(0, 120);
        x.heat(35, 120);
        // 0 is the least of four, and weakens 30; 29 is the lesser of the two that are left, and weakens 59.
        int[] due = {0, 30, 29, 59};
        for (int place = 0; place < due.length; place++) {
            Check.due("pass(1)", x.pass(1), 1);
            Check.due("joint(" + due[place] + ", 5)", x.joint(due[place], 5), place + 1);
        }
        ColdPanes y = Check.still();
        y.heat(0, 120);
        y.heat(35, 121);
        y.scratch(59, 101);
        y.scratch(29, 101);
        Check.due("pass(1)", y.pass(1), 1);
        Check.due("the least number though the stress is less", y.joint(0, 2), 0);
    }

    /** "the strength of each whole joint that touches it becomes 9 tenths of what it was". */
    private static void neighboursBecomeWeaker() {
        for (int cracked : new int[] {0, 4, 14, 29, 30, 35, 44, 59}) {
            ColdPanes x = Check.still();
            int first = first(cracked);
            x.scratch(cracked, 1);
            x.heat(first, 2);
            Check.due("pass(1)", x.pass(1), 1);
            Check.due("joint(" + cracked + ", 2)", x.joint(cracked, 2), 0);
            Check.due("the cracked one itself", x.joint(cracked, 3), 1);
            for (int joint = 0; joint < 60; joint++) {
                if (joint != cracked) {
                    int due = haveACellInCommon(joint, cracked) ? 90 : 100;
                    Check.due("joint(" + joint + ", 3) beside " + cracked, x.joint(joint, 3), due);
                }
            }
        }
    }

    /** "9 tenths of what it was (at least 1)"; "rounded towards 0". */
    private static void nineTenthsAtLeastOne() {
        int[] before = {1, 2, 3, 9, 10, 11, 19, 20, 21, 100, 499, 500};
        int[] due = {1, 1, 2, 8, 9, 9, 17, 18, 18, 90, 449, 450};
        for (int place = 0; place < before.length; place++) {
            ColdPanes x = Check.still();
            x.scratch(59, before[place]);
            x.scratch(29, 1);
            x.heat(34, 200);
            x.scratch(28, 500);
            x.scratch(58, 500);
            Check.due("pass(1)", x.pass(1), 1);
            Check.due("9 tenths of " + before[place], x.joint(59, 3), due[place]);
        }
    }

    /** "of each whole joint that touches it": a cracked one keeps the strength that it cracked with. */
    private static void aCrackedNeighbourStaysAsItIs() {
        ColdPanes x = Check.still();
        x.heat(0, 101);
        Check.due("pass(1)", x.pass(1), 1);
        Check.due("joint(30, 3): touched once", x.joint(30, 3), 90);
        Check.due("pass(1)", x.pass(1), 1);
        Check.due("joint(30, 2)", x.joint(30, 2), 0);
        Check.due("joint(0, 3) of the one that had cracked", x.joint(0, 3), 100);
        Check.due("joint(30, 3) as it cracked", x.joint(30, 3), 90);
    }

    /** "one joint cracks in it at most": one that became too weak in it cracks in the next. */
    private static void oneJointInAMinute() {
        ColdPanes x = Check.still();
        x.heat(0, 101);
        x.scratch(30, 105);
        Check.due("pass(1): the joint 0", x.pass(1), 1);
        Check.due("the joint 30 is too weak now", x.joint(30, 3), 94);
        Check.due("but whole", x.joint(30, 2), 1);
        Check.due("pass(1): the joint 30", x.pass(1), 1);
        Check.due("joint(30, 5)", x.joint(30, 5), 2);
        Check.due("pass(1): no more", x.pass(1), 0);
        ColdPanes y = Check.still();
        y.heat(14, 200);
        for (int cracks = 1; cracks <= 4; cracks++) {
            Check.due("pass(1)", y.pass(1), 1);
            Check.due("cracked of four", y.count(6), cracks);
        }
        Check.due("pass(1): no more", y.pass(1), 0);
    }

    /** "Two cells are of the same piece, if one comes from one to the other over whole joints"; "the lowest number". */
    private static void piecesOverWholeJoints() {
        ColdPanes x = Check.still();
        // The cells 0 to 4 of the first row are hot, so that the cell 5 is of the piece below.
        for (int cell = 0; cell < 5; cell++) {
            x.heat(cell, 200);
        }
        Check.due("pass(6)", x.pass(6), 6);
        for (int cell = 0; cell < 36; cell++) {
            Check.due("cell(" + cell + ", 1)", x.cell(cell, 1), cell < 5 ? 0 : 5);
        }
        Check.due("pieces(0)", x.pieces(0), 2);
        Check.due("pieces(1)", x.pieces(1), 2);
        x.mend(4);
        x.scratch(4, 500);
        Check.due("one whole joint joins them", x.cell(35, 1), 0);
        Check.due("pieces(0)", x.pieces(0), 1);
        Check.due("pieces(1)", x.pieces(1), 1);
    }

    /** "(or they are the same)": a cell without a whole joint is a piece. */
    private static void pieceOfACellAlone() {
        ColdPanes x = Check.still();
        x.heat(35, 150);
        Check.due("pass(2)", x.pass(2), 2);
        Check.due("cell(35, 1)", x.cell(35, 1), 35);
        Check.due("cell(34, 1)", x.cell(34, 1), 0);
        Check.dueMean("mean(35)", x.mean(35), 750.0);
        ColdPanes y = Check.still();
        y.heat(0, 150);
        Check.due("pass(2)", y.pass(2), 2);
        Check.due("cell(0, 1)", y.cell(0, 1), 0);
        Check.due("cell(1, 1)", y.cell(1, 1), 1);
        Check.due("cell(35, 1)", y.cell(35, 1), 1);
    }

    /** "(In parentheses: range; first value.) LEAD (0 to 20; 10), RIM (0 to 20; 8)." */
    private static void settingsAtFirst() {
        ColdPanes x = new ColdPanes();
        Check.due("count(12)", x.count(12), 10);
        Check.due("count(13)", x.count(13), 8);
        Check.due("set(LEAD, 20)", x.set(ColdPanes.LEAD, 20), 10);
        Check.due("set(RIM, 20)", x.set(ColdPanes.RIM, 20), 8);
        Check.due("set(LEAD, 0)", x.set(ColdPanes.LEAD, 0), 20);
        Check.due("set(RIM, 0)", x.set(ColdPanes.RIM, 0), 20);
        for (int value : new int[] {-1, 21}) {
            Refused.asInvalid("set(LEAD, " + value + ")", y -> y.set(ColdPanes.LEAD, value));
            Refused.asInvalid("set(RIM, " + value + ")", y -> y.set(ColdPanes.RIM, value));
        }
    }
}
