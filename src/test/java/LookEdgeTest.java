/** The boundary cases that promises 13 to 18 name; each test bears the words that it holds to. */
public final class LookEdgeTest {
    private static final int NOTHING = ColdPanes.NOT_FOUND;
    private static final int[] FAR = {Integer.MIN_VALUE, Integer.MAX_VALUE};

    public static void main(String[] arguments) {
        cellOfCell();
        whatOfCell();
        wholeJointsOfACell();
        greatestStressOfACell();
        aCellWithoutWholeJoints();
        jointOfJoint();
        whatOfJoint();
        differenceOfACrackedJoint();
        minuteOfACrack();
        wholeJointsThatTouch();
        placeOfStrained();
        placesOfWholeJointsAlone();
        leastMarginFirst();
        ofSeveralTheLeastNumber();
        wayOfPieces();
        fromOnePieceToThirtySix();
        bothWaysAlike();
        whatOfCount();
        countsAtTheirEnds();
        stressAndMarginWithoutWholeJoints();
        theLastWholeJoint();
        cellsOfTheGreatestPiece();
        whatFlamesGave();
        lengthsAndStates();
        cellOfMean();
        meanOfOneCellAndOfAll();
        meanIsNotRounded();
        looksChangeNothing();
        Check.end();
    }

    /** "cell: 0 to 35". */
    private static void cellOfCell() {
        ColdPanes x = new ColdPanes();
        int[] ofACorner = {600, 0, 2, 2, 0};
        for (int what = 0; what <= 4; what++) {
            Check.due("cell(0, " + what + ")", x.cell(0, what), ofACorner[what]);
            Check.due("cell(35, " + what + ")", x.cell(35, what), ofACorner[what]);
            int property = what;
            for (int cell : new int[] {-1, 36, FAR[0], FAR[1]}) {
                Refused.asInvalid("cell(" + cell + ", " + what + ")", y -> y.cell(cell, property));
            }
        }
    }

    /** "what: 0 .. 4". */
    private static void whatOfCell() {
        for (int cell : new int[] {0, 14, 35}) {
            for (int what : new int[] {-1, 5, FAR[0], FAR[1]}) {
                Refused.asInvalid("cell(" + cell + ", " + what + ")", y -> y.cell(cell, what));
            }
        }
        Refused.asInvalid("cell(36, 5)", y -> y.cell(36, 5));
    }

    /** "2: how many of its joints are whole": from all to none. */
    private static void wholeJointsOfACell() {
        ColdPanes x = Check.still();
        x.heat(14, 200);
        for (int left = 4; left >= 0; left--) {
            Check.due("cell(14, 2)", x.cell(14, 2), left);
            x.pass(1);
        }
        Check.due("cell(8, 2) above it", x.cell(8, 2), 3);
        Check.due("cell(13, 2) beside it", x.cell(13, 2), 3);
        Check.due("cell(7, 2)", x.cell(7, 2), 4);
        x.mend(11);
        Check.due("cell(14, 2) mended", x.cell(14, 2), 1);
        ColdPanes y = new ColdPanes();
        for (int cell = 0; cell < 36; cell++) {
            Check.due("cell(" + cell + ", 2) and its sides", y.cell(cell, 2) + y.cell(cell, 3), 4);
        }
    }

    /** "4: the greatest stress of a whole joint of it": whichever of its joints it is, and not of a cracked one. */
    private static void greatestStressOfACell() {
        for (int other : new int[] {8, 13, 15, 20}) {
            for (int sign = -1; sign <= 1; sign += 2) {
                ColdPanes x = Check.still();
                x.heat(other, 60 * sign);
                Check.due("cell(14, 4) by cell " + other, x.cell(14, 4), 60);
                x.heat(14, 20 * sign);
                Check.due("cell(14, 4) by cell " + other, x.cell(14, 4), 40);
                Check.due("cell(35, 4)", x.cell(35, 4), 0);
                x.heat(other, 120 * sign);
                Check.due("pass(1)", x.pass(1), 1);
            }
        }
        ColdPanes y = Check.still();
        y.heat(0, 101);
        y.heat(6, 31);
        Check.due("cell(0, 4)", y.cell(0, 4), 101);
        y.pass(1);
        Check.due("cell(0, 4) of the other joint", y.cell(0, 4), 70);
    }

    /** "NOT_FOUND if it has none". */
    private static void aCellWithoutWholeJoints() {
        ColdPanes x = Check.still();
        x.heat(35, 150);
        x.pass(1);
        Check.due("cell(35, 4) with one whole joint", x.cell(35, 4), 150);
        x.pass(1);
        Check.due("cell(35, 4) with none", x.cell(35, 4), NOTHING);
        Check.due("cell(35, 2)", x.cell(35, 2), 0);
        Check.due("cell(35, 3)", x.cell(35, 3), 2);
        Check.due("cell(34, 4)", x.cell(34, 4), 0);
        x.mend(59);
        Check.due("cell(35, 4) mended", x.cell(35, 4), 150);
        ColdPanes y = Check.shattered();
        for (int cell = 0; cell < 36; cell++) {
            Check.due("cell(" + cell + ", 0) of shards", y.cell(cell, 0), (cell / 6 + cell % 6) % 2 == 0 ? 750 : 600);
            Check.due("cell(" + cell + ", 1) of shards", y.cell(cell, 1), cell);
            Check.due("cell(" + cell + ", 2) of shards", y.cell(cell, 2), 0);
            Check.due("cell(" + cell + ", 4) of shards", y.cell(cell, 4), NOTHING);
        }
    }

    /** "joint: 0 to 59". */
    private static void jointOfJoint() {
        ColdPanes x = new ColdPanes();
        int[] ofTheFirst = {0, 1, 1, 100, 0, NOTHING, 3};
        int[] ofTheLast = {29, 35, 1, 100, 0, NOTHING, 3};
        for (int what = 0; what <= 6; what++) {
            Check.due("joint(0, " + what + ")", x.joint(0, what), ofTheFirst[what]);
            Check.due("joint(59, " + what + ")", x.joint(59, what), ofTheLast[what]);
            int property = what;
            for (int joint : new int[] {-1, 60, FAR[0], FAR[1]}) {
                Refused.asInvalid("joint(" + joint + ", " + what + ")", y -> y.joint(joint, property));
            }
        }
    }

    /** "what: 0 .. 6". */
    private static void whatOfJoint() {
        for (int joint : new int[] {0, 37, 59}) {
            for (int what : new int[] {-1, 7, FAR[0], FAR[1]}) {
                Refused.asInvalid("joint(" + joint + ", " + what + ")", y -> y.joint(joint, what));
            }
        }
        Refused.asInvalid("joint(60, 7)", y -> y.joint(60, 7));
    }

    /** "3: its strength (of a cracked one as it cracked); 4: the difference of the heats of its cells (0 or more)". */
    private static void differenceOfACrackedJoint() {
        ColdPanes x = Check.still();
        x.scratch(59, 7);
        x.heat(35, -8);
        Check.due("joint(59, 4)", x.joint(59, 4), 8);
        x.pass(1);
        Check.due("joint(59, 2)", x.joint(59, 2), 0);
        Check.due("joint(59, 3)", x.joint(59, 3), 7);
        Check.due("joint(59, 4)", x.joint(59, 4), 8);
        x.heat(29, -8);
        Check.due("joint(59, 4)", x.joint(59, 4), 0);
        x.heat(29, -9);
        Check.due("joint(59, 4)", x.joint(59, 4), 9);
        x.heat(35, 200);
        Check.due("joint(59, 4)", x.joint(59, 4), 209);
    }

    /** "5: the minute in which it cracked, from 1 on, NOT_FOUND if it is whole". */
    private static void minuteOfACrack() {
        ColdPanes x = Check.still();
        x.heat(0, 101);
        Check.due("joint(0, 5)", x.joint(0, 5), NOTHING);
        x.pass(2);
        Check.due("joint(0, 5)", x.joint(0, 5), 1);
        Check.due("joint(30, 5)", x.joint(30, 5), 2);
        x.pass(99);
        Check.due("joint(0, 5) later", x.joint(0, 5), 1);
        x.mend(0);
        Check.due("joint(0, 5) mended", x.joint(0, 5), NOTHING);
        x.pass(1);
        Check.due("joint(0, 5) cracked again", x.joint(0, 5), 102);
    }

    /** "6: how many whole joints touch it": whole ones alone, whether it is whole itself or not. */
    private static void wholeJointsThatTouch() {
        ColdPanes x = Check.still();
        x.heat(14, 200);
        int[] due = {6, 6, 5, 4, 3};
        for (int cracked = 0; cracked <= 4; cracked++) {
            Check.due("joint(11, 6) with " + cracked + " cracked", x.joint(11, 6), due[cracked]);
            x.pass(1);
        }
        ColdPanes y = Check.shattered();
        Check.due("joint(0, 6) of shards", y.joint(0, 6), 0);
        Check.due("joint(59, 6) of shards", y.joint(59, 6), 0);
        y.mend(30);
        Check.due("joint(0, 6)", y.joint(0, 6), 1);
        Check.due("joint(30, 6): it does not touch itself", y.joint(30, 6), 0);
    }

    /** "place: 0 for the first one, and so on"; "INVALID_ARGUMENT if place is below 0; NOT_FOUND if ..". */
    private static void placeOfStrained() {
        ColdPanes x = new ColdPanes();
        Check.due("strained(0)", x.strained(0), 0);
        Check.due("strained(59)", x.strained(59), 59);
        Check.due("strained(60)", x.strained(60), NOTHING);
        Check.due("strained(" + FAR[1] + ")", x.strained(FAR[1]), NOTHING);
        for (int place : new int[] {-1, -60, FAR[0]}) {
            Refused.asInvalid("strained(" + place + ")", y -> y.strained(place));
        }
        Refused.in(ColdPanes::new, "strained(60)", y -> y.strained(60), NOTHING);
        Refused.in(Refused::shards, "strained(0)", y -> y.strained(0), NOTHING);
    }

    /** "NOT_FOUND if there are not so many whole joints". */
    private static void placesOfWholeJointsAlone() {
        ColdPanes x = Check.still();
        x.heat(0, 101);
        x.pass(1);
        Check.due("strained(0): that beside the crack", x.strained(0), 30);
        Check.due("strained(58)", x.strained(58), 59);
        Check.due("strained(59)", x.strained(59), NOTHING);
        x.pass(1);
        Check.due("strained(57)", x.strained(57), 59);
        Check.due("strained(58)", x.strained(58), NOTHING);
        ColdPanes y = Check.shattered();
        Check.due("strained(0) of shards", y.strained(0), NOTHING);
        Check.due("strained(-1) of shards", y.strained(-1), ColdPanes.INVALID_ARGUMENT);
        y.mend(41);
        Check.due("strained(0) of one joint", y.strained(0), 41);
        Check.due("strained(1) of one joint", y.strained(1), NOTHING);
    }

    /** "those with the least margin (strength less stress) first": also a margin of 0, and below 0. */
    private static void leastMarginFirst() {
        ColdPanes x = Check.still();
        x.heat(0, 101);
        x.scratch(0, 101);
        x.scratch(59, 1);
        Check.due("strained(0): -1", x.strained(0), 30);
        Check.due("strained(1): 0", x.strained(1), 0);
        Check.due("strained(2): 1", x.strained(2), 59);
        Check.due("strained(3): 100", x.strained(3), 1);
        x.scratch(1, 101);
        Check.due("strained(3): 100", x.strained(3), 2);
        Check.due("strained(59): 101", x.strained(59), 1);
        x.scratch(2, 99);
        Check.due("strained(3): 99", x.strained(3), 2);
    }

    /** "of several the one with the least number". */
    private static void ofSeveralTheLeastNumber() {
        ColdPanes x = Check.still();
        for (int joint : new int[] {59, 31, 30, 29, 1}) {
            x.scratch(joint, 99);
        }
        int[] due = {1, 29, 30, 31, 59, 0, 2};
        for (int place = 0; place < due.length; place++) {
            Check.due("strained(" + place + ")", x.strained(place), due[place]);
        }
    }

    /** "way: 0 .. 1". */
    private static void wayOfPieces() {
        for (int way : new int[] {-1, 2, FAR[0], FAR[1]}) {
            Refused.asInvalid("pieces(" + way + ")", y -> y.pieces(way));
        }
        ColdPanes x = new ColdPanes();
        Check.due("pieces(0)", x.pieces(0), 1);
        Check.due("pieces(1)", x.pieces(1), 1);
    }

    /** From shards to one piece: mended joints join two pieces, or close a ring. */
    private static void fromOnePieceToThirtySix() {
        ColdPanes x = Check.shattered();
        duePieces(x, 36);
        for (int joint = 0; joint < 30; joint++) {
            x.mend(joint);
            duePieces(x, 35 - joint);
        }
        for (int joint = 30; joint < 60; joint++) {
            x.mend(joint);
            int row = (joint - 30) / 6;
            duePieces(x, 5 - row);
        }
    }

    private static void duePieces(ColdPanes x, int due) {
        Check.due("pieces(0)", x.pieces(0), due);
        Check.due("pieces(1)", x.pieces(1), due);
    }

    /** "Returns how many (the same for both)": a piece whose way winds, so that names have to go back along it. */
    private static void bothWaysAlike() {
        ColdPanes x = Check.shattered();
        // From the cell 35 up the last column, along the first row, down the first column.
        int[] joints = {59, 53, 47, 41, 35, 4, 3, 2, 1, 0, 30, 36, 42, 48, 54};
        for (int place = 0; place < joints.length; place++) {
            x.mend(joints[place]);
            duePieces(x, 35 - place);
        }
        Check.due("cell(35, 1)", x.cell(35, 1), 0);
        Check.due("cell(30, 1)", x.cell(30, 1), 0);
        Check.due("cell(34, 1)", x.cell(34, 1), 34);
        Check.due("cells of the greatest", x.count(11), 16);
    }

    /** "what: 0 .. 16". */
    private static void whatOfCount() {
        for (int what : new int[] {-1, 17, FAR[0], FAR[1]}) {
            Refused.asInvalid("count(" + what + ")", y -> y.count(what));
        }
        Check.due("count(0)", new ColdPanes().count(0), 600);
        Check.due("count(16)", new ColdPanes().count(16), 0);
    }

    /** The least and the greatest that the counts 0 to 8, 12 and 13 tell. */
    private static void countsAtTheirEnds() {
        ColdPanes x = new ColdPanes();
        x.begin(0);
        x.aim(1000, 100);
        x.set(ColdPanes.LEAD, 0);
        x.set(ColdPanes.RIM, 20);
        int[] due = {0, 1000, 100, 0, 0, 0, 0, 0, 0, 0, 100, 36, 0, 20, 0, 0, 4};
        for (int what = 0; what < due.length; what++) {
            Check.due("count(" + what + ")", x.count(what), due[what]);
        }
        for (int cell : new int[] {0, 1, 17, 34, 35}) {
            ColdPanes y = Check.still();
            y.heat(cell, 1);
            Check.due("count(7)", y.count(7), 601);
            Check.due("count(8)", y.count(8), 600);
            y.heat(cell, -2);
            Check.due("count(7)", y.count(7), 600);
            Check.due("count(8)", y.count(8), 599);
            Check.due("count(4)", y.count(4), 21599);
        }
    }

    /** "9: the greatest stress .., 10: the least margin of a whole joint, NOT_FOUND for both if none is whole". */
    private static void stressAndMarginWithoutWholeJoints() {
        ColdPanes x = Check.shattered();
        int[] due = {600, 600, 10, 60, 18 * 1350, 0, 60, 750, 600, NOTHING, NOTHING, 1, 0, 0, 18 * 150, 0, 4};
        for (int what = 0; what < due.length; what++) {
            Check.due("count(" + what + ") of shards", x.count(what), due[what]);
        }
        x.begin(5);
        Check.due("count(9)", x.count(9), 0);
        Check.due("count(10)", x.count(10), 100);
    }

    private static void theLastWholeJoint() {
        ColdPanes x = Check.shattered();
        x.mend(59);
        Check.due("count(9) of one whole joint", x.count(9), 150);
        Check.due("count(10) of one whole joint", x.count(10), -100);
        x.scratch(59, 150);
        Check.due("count(10), strained as can be", x.count(10), 0);
        x.scratch(59, 146);
        Check.due("count(10) that is -4, too", x.count(10), -4);
        x.heat(35, -150);
        Check.due("count(9)", x.count(9), 0);
        Check.due("count(10)", x.count(10), 146);
        x.scratch(59, 500);
        Check.due("count(10)", x.count(10), 500);
    }

    /** "11: cells of the greatest piece": not always of the first one, from 36 to 1. */
    private static void cellsOfTheGreatestPiece() {
        ColdPanes x = Check.still();
        Check.due("count(11)", x.count(11), 36);
        x.heat(0, 150);
        x.pass(2);
        Check.due("count(11)", x.count(11), 35);
        ColdPanes y = Check.still();
        y.heat(35, 150);
        y.pass(2);
        Check.due("count(11)", y.count(11), 35);
        ColdPanes z = Check.shattered();
        Check.due("count(11)", z.count(11), 1);
        z.mend(59);
        Check.due("count(11)", z.count(11), 2);
    }

    /** "14: by how much flames made heats greater so far, less by how much they made them less". */
    private static void whatFlamesGave() {
        ColdPanes x = new ColdPanes();
        x.begin(100);
        x.heat(0, 200);
        x.heat(1, -30);
        Check.due("count(14)", x.count(14), 170);
        x.heat(2, -200);
        Check.due("count(14): 100 alone was there", x.count(14), 70);
        x.heat(3, -71);
        Check.due("count(14) below 0", x.count(14), -1);
        x.pass(9);
        Check.due("count(14): minutes are no flames", x.count(14), -1);
        x.undo();
        x.undo();
        Check.due("count(14) behind undo()", x.count(14), 70);
    }

    /** "15: the length of the pad; 16: states in the history": 0 to 60, 0 to 4. */
    private static void lengthsAndStates() {
        ColdPanes x = new ColdPanes();
        for (int length = 0; length <= 60; length++) {
            Check.due("count(15)", x.count(15), length);
            x.append('z');
        }
        Check.due("count(15)", x.count(15), 60);
        for (int states = 0; states <= 4; states++) {
            Check.due("count(16)", x.count(16), states);
            x.pass(1);
        }
        Check.due("count(16)", x.count(16), 4);
    }

    /** "-1.0 if there is no such cell". */
    private static void cellOfMean() {
        ColdPanes x = Refused.lively();
        for (int cell : new int[] {-1, 36, FAR[0], FAR[1]}) {
            Check.dueMean("mean(" + cell + ")", x.mean(cell), -1.0);
            Check.dueMean("mean(" + cell + ") of shards", Refused.shards().mean(cell), -1.0);
            Refused.in(Refused::lively, "mean(" + cell + ")", y -> (int) y.mean(cell), -1);
        }
        ColdPanes y = new ColdPanes();
        Check.dueMean("mean(0)", y.mean(0), 600.0);
        Check.dueMean("mean(35)", y.mean(35), 600.0);
    }

    /** "the sum of the heats of its cells, as a double, divided by their number". */
    private static void meanOfOneCellAndOfAll() {
        ColdPanes x = Check.shattered();
        Check.dueMean("mean(0) of shards", x.mean(0), 750.0);
        Check.dueMean("mean(1) of shards", x.mean(1), 600.0);
        Check.dueMean("mean(35) of shards", x.mean(35), 750.0);
        ColdPanes y = new ColdPanes();
        y.begin(0);
        Check.dueMean("mean(35) at 0", y.mean(35), 0.0);
        y.begin(1000);
        Check.dueMean("mean(35) at 1000", y.mean(35), 1000.0);
    }

    private static void meanIsNotRounded() {
        ColdPanes x = Check.still();
        x.heat(17, 1);
        Check.dueMean("mean(0)", x.mean(0), 21601.0 / 36);
        x.heat(17, -2);
        Check.dueMean("mean(0)", x.mean(0), 21599.0 / 36);
        ColdPanes y = Check.shattered();
        y.mend(29);
        Check.dueMean("mean(34)", y.mean(34), 675.0);
        y.heat(34, 1);
        Check.dueMean("mean(35)", y.mean(35), 675.5);
    }

    /** "looks; nothing is changed". */
    private static void looksChangeNothing() {
        for (int what = -1; what <= 17; what++) {
            int number = what;
            int cell = new ColdPanes().cell(3, what);
            int joint = new ColdPanes().joint(3, what);
            int count = new ColdPanes().count(what);
            Refused.in(ColdPanes::new, "cell(3, " + what + ")", y -> y.cell(3, number), cell);
            Refused.in(ColdPanes::new, "joint(3, " + what + ")", y -> y.joint(3, number), joint);
            Refused.in(ColdPanes::new, "count(" + what + ")", y -> y.count(number), count);
        }
        for (int way = 0; way <= 1; way++) {
            int number = way;
            Refused.in(Refused::shards, "pieces(" + way + ")", y -> y.pieces(number), 36);
        }
        Refused.in(Refused::shards, "count(11)", y -> y.count(11), 1);
        Refused.in(Refused::shards, "cell(35, 1)", y -> y.cell(35, 1), 35);
        Refused.in(Refused::shards, "mean(0)", y -> (int) y.mean(0), 750);
        Refused.in(ColdPanes::new, "strained(59)", y -> y.strained(59), 59);
    }
}
