/** Promises 13 to 18. */
public final class LookTest {
    private static final int BAD = ColdPanes.INVALID_ARGUMENT;
    private static final int NOTHING = ColdPanes.NOT_FOUND;

    public static void main(String[] arguments) {
        wrongArguments();
        cell();
        cellOfAPiece();
        jointNumbers();
        joint();
        touching();
        strained();
        pieces();
        piecesWithinAPiece();
        piecesRoundCorners();
        count();
        mean();
        lastJointCracked();
        looksChangeNothing();
        Check.end();
    }

    private static void wrongArguments() {
        ColdPanes x = new ColdPanes();
        Check.due("cell(-1, 0)", x.cell(-1, 0), BAD);
        Check.due("cell(36, 0)", x.cell(36, 0), BAD);
        Check.due("cell(0, -1)", x.cell(0, -1), BAD);
        Check.due("cell(0, 5)", x.cell(0, 5), BAD);
        Check.due("joint(-1, 0)", x.joint(-1, 0), BAD);
        Check.due("joint(60, 0)", x.joint(60, 0), BAD);
        Check.due("joint(0, -1)", x.joint(0, -1), BAD);
        Check.due("joint(0, 7)", x.joint(0, 7), BAD);
        Check.due("strained(-1)", x.strained(-1), BAD);
        Check.due("pieces(-1)", x.pieces(-1), BAD);
        Check.due("pieces(2)", x.pieces(2), BAD);
        Check.due("count(-1)", x.count(-1), BAD);
        Check.due("count(17)", x.count(17), BAD);
        Check.dueMean("mean(-1)", x.mean(-1), -1.0);
        Check.dueMean("mean(36)", x.mean(36), -1.0);
        int most = Integer.MAX_VALUE;
        int least = Integer.MIN_VALUE;
        for (int far : new int[] {most, least}) {
            Check.due("cell far away", x.cell(far, 1), BAD);
            Check.due("what far away", x.cell(1, far), BAD);
            Check.due("joint far away", x.joint(far, 1), BAD);
            Check.due("what far away", x.joint(1, far), BAD);
            Check.due("way far away", x.pieces(far), BAD);
            Check.due("what far away", x.count(far), BAD);
            Check.dueMean("mean far away", x.mean(far), -1.0);
        }
        Check.due("strained far away", x.strained(most), NOTHING);
        Check.due("strained far away", x.strained(least), BAD);
    }

    private static void cell() {
        ColdPanes x = Check.still();
        x.heat(0, 30);
        x.heat(7, -20);
        Check.due("cell(0, 0)", x.cell(0, 0), 630);
        Check.due("cell(7, 0)", x.cell(7, 0), 580);
        Check.due("cell(0, 2)", x.cell(0, 2), 2);
        Check.due("cell(3, 2)", x.cell(3, 2), 3);
        Check.due("cell(7, 2)", x.cell(7, 2), 4);
        Check.due("cell(35, 2)", x.cell(35, 2), 2);
        int[] corners = {0, 5, 30, 35};
        int[] edges = {1, 4, 6, 11, 24, 29, 31, 34};
        int[] within = {7, 10, 14, 25, 28};
        dueSides(x, corners, 2);
        dueSides(x, edges, 1);
        dueSides(x, within, 0);
        Check.due("cell(0, 4)", x.cell(0, 4), 30);
        Check.due("cell(1, 4): the greater one of its stresses", x.cell(1, 4), 30);
        Check.due("cell(8, 4)", x.cell(8, 4), 20);
        Check.due("cell(35, 4)", x.cell(35, 4), 0);
    }

    private static void dueSides(ColdPanes x, int[] cells, int due) {
        for (int cell : cells) {
            Check.due("cell(" + cell + ", 3)", x.cell(cell, 3), due);
        }
    }

    /** Parts the lower two rows, from the cell 24 on, from the others. */
    private static ColdPanes parted() {
        ColdPanes x = Check.still();
        for (int cell = 24; cell < 36; cell++) {
            x.heat(cell, 101);
        }
        Check.due("pass(6)", x.pass(6), 6);
        return x;
    }

    private static void cellOfAPiece() {
        ColdPanes x = parted();
        for (int cell = 0; cell < 36; cell++) {
            Check.due("cell(" + cell + ", 1)", x.cell(cell, 1), cell < 24 ? 0 : 24);
        }
        Check.due("cell(24, 2)", x.cell(24, 2), 2);
        Check.due("cell(20, 2)", x.cell(20, 2), 3);
        Check.due("cell(20, 4): not of a cracked joint", x.cell(20, 4), 0);
        Check.due("cell(24, 3): no rim at a crack", x.cell(25, 3), 0);
    }

    private static void jointNumbers() {
        ColdPanes x = new ColdPanes();
        int joint = 0;
        for (int row = 0; row < 6; row++) {
            for (int column = 0; column < 5; column++) {
                Check.due("joint(" + joint + ", 0)", x.joint(joint, 0), 6 * row + column);
                Check.due("joint(" + joint + ", 1)", x.joint(joint, 1), 6 * row + column + 1);
                joint++;
            }
        }
        for (int cell = 0; cell < 30; cell++) {
            Check.due("joint(" + joint + ", 0)", x.joint(joint, 0), cell);
            Check.due("joint(" + joint + ", 1)", x.joint(joint, 1), cell + 6);
            joint++;
        }
    }

    private static void joint() {
        ColdPanes x = Check.still();
        x.scratch(0, 70);
        x.heat(0, 75);
        Check.due("joint(0, 2)", x.joint(0, 2), 1);
        Check.due("joint(0, 3)", x.joint(0, 3), 70);
        Check.due("joint(0, 4)", x.joint(0, 4), 75);
        Check.due("joint(30, 4)", x.joint(30, 4), 75);
        Check.due("joint(0, 5)", x.joint(0, 5), NOTHING);
        x.pass(1);
        Check.due("joint(0, 2)", x.joint(0, 2), 0);
        Check.due("joint(0, 3)", x.joint(0, 3), 70);
        Check.due("joint(0, 4) of a cracked one", x.joint(0, 4), 75);
        Check.due("joint(0, 5)", x.joint(0, 5), 1);
        x.pass(50);
        x.heat(35, -101);
        x.pass(1);
        Check.due("joint(29, 5): minutes count on", x.joint(29, 5), 52);
        Check.due("joint(0, 5)", x.joint(0, 5), 1);
    }

    private static void touching() {
        ColdPanes x = Check.still();
        Check.due("joint(0, 6)", x.joint(0, 6), 3);
        Check.due("joint(1, 6)", x.joint(1, 6), 4);
        Check.due("joint(6, 6)", x.joint(6, 6), 6);
        Check.due("joint(37, 6)", x.joint(37, 6), 6);
        Check.due("joint(59, 6)", x.joint(59, 6), 3);
        x.heat(0, 101);
        x.pass(1);
        Check.due("joint(0, 6) of a cracked one", x.joint(0, 6), 3);
        Check.due("joint(1, 6)", x.joint(1, 6), 3);
        Check.due("joint(30, 6)", x.joint(30, 6), 2);
    }

    private static void strained() {
        ColdPanes x = Check.still();
        Check.due("strained(0)", x.strained(0), 0);
        Check.due("strained(59)", x.strained(59), 59);
        Check.due("strained(60)", x.strained(60), NOTHING);
        x.heat(14, 40);
        x.scratch(50, 55);
        x.scratch(3, 500);
        // The joints of cell 14 are 11, 12, 38 and 44, with the margin 60; that of joint 50 is 55.
        int[] due = {50, 11, 12, 38, 44, 0, 1, 2, 4};
        for (int place = 0; place < due.length; place++) {
            Check.due("strained(" + place + ")", x.strained(place), due[place]);
        }
        Check.due("strained(59)", x.strained(59), 3);
        x.heat(14, 61);
        x.pass(1);
        Check.due("a cracked one has no place", x.strained(0), 12);
        Check.due("strained(58)", x.strained(58), 3);
        Check.due("strained(59)", x.strained(59), NOTHING);
    }

    private static void pieces() {
        ColdPanes x = new ColdPanes();
        duePieces(x, 1);
        duePieces(parted(), 2);
        duePieces(Check.shattered(), 36);
        ColdPanes y = Check.still();
        y.heat(35, 101);
        y.pass(1);
        duePieces(y, 1);
        y.pass(1);
        duePieces(y, 2);
        y.mend(29);
        duePieces(y, 1);
    }

    private static void duePieces(ColdPanes x, int due) {
        Check.due("pieces(0)", x.pieces(0), due);
        Check.due("pieces(1)", x.pieces(1), due);
    }

    private static void piecesWithinAPiece() {
        ColdPanes x = Check.still();
        // A ring of hot cells round the cell 14, which is cold: the ring is a piece within the outer one.
        for (int cell : new int[] {7, 8, 9, 13, 15, 19, 20, 21}) {
            x.heat(cell, 200);
        }
        x.pass(60);
        duePieces(x, 3);
        Check.due("cell(14, 1)", x.cell(14, 1), 14);
        Check.due("cell(21, 1)", x.cell(21, 1), 7);
        Check.due("cell(35, 1)", x.cell(35, 1), 0);
        Check.due("cells of the greatest", x.count(11), 27);
        Check.dueMean("mean(20)", x.mean(20), 800.0);
    }

    private static void piecesRoundCorners() {
        ColdPanes x = Check.still();
        // The last cell of the one hot piece is reached to the left alone, that of the other one upwards alone.
        for (int cell : new int[] {1, 7, 6, 3, 9, 15, 16, 17, 11}) {
            x.heat(cell, 200);
        }
        x.pass(60);
        Check.due("cell(0, 1)", x.cell(0, 1), 0);
        Check.due("cell(6, 1)", x.cell(6, 1), 1);
        Check.due("cell(11, 1)", x.cell(11, 1), 3);
        Check.due("cell(2, 1)", x.cell(2, 1), 2);
        Check.due("cell(10, 1)", x.cell(10, 1), 4);
        duePieces(x, 5);
        ColdPanes y = Check.still();
        y.scratch(30, 1);
        y.heat(0, 50);
        y.pass(1);
        Check.due("joint(30, 2)", y.joint(30, 2), 0);
        duePieces(y, 1);
    }

    private static void count() {
        ColdPanes x = Check.still();
        x.aim(640, 30);
        x.heat(3, 45);
        x.heat(32, -70);
        x.scratch(31, 9);
        Check.write(x, "h1");
        x.pass(1);
        int[] due = {630, 640, 30, 1, 21575, 0, 0, 645, 530, 70, 9, 36, 0, 0, -25, 2, 4};
        for (int what = 0; what < due.length; what++) {
            Check.due("count(" + what + ")", x.count(what), due[what]);
        }
        x.heat(2, -60);
        Check.due("the least margin is below 0", x.count(10), 100 - 105);
        Check.due("the greatest stress", x.count(9), 105);
        x.pass(1);
        Check.due("the greatest stress of a whole joint", x.count(9), 70);
        Check.due("cracked", x.count(6), 1);
        ColdPanes y = parted();
        Check.due("cells of the greatest piece", y.count(11), 24);
        for (int cell : new int[] {0, 1, 2, 34, 35}) {
            ColdPanes z = Check.still();
            z.heat(cell, 8);
            Check.due("count(7), the cell " + cell, z.count(7), 608);
            Check.due("count(8), the cell " + cell, z.count(8), 600);
            z.heat(cell, -15);
            Check.due("count(7), the cell " + cell, z.count(7), 600);
            Check.due("count(8), the cell " + cell, z.count(8), 593);
        }
        ColdPanes w = Check.still();
        w.heat(0, 50);
        w.heat(6, 40);
        Check.due("count(9), the joint 0", w.count(9), 50);
    }

    private static void mean() {
        ColdPanes x = parted();
        Check.dueMean("mean(0)", x.mean(0), 600.0);
        Check.dueMean("mean(35)", x.mean(35), 701.0);
        x.heat(35, 7);
        Check.dueMean("mean(24)", x.mean(24), 8419.0 / 12);
        ColdPanes y = new ColdPanes();
        y.begin(0);
        Check.dueMean("mean of a cold pane", y.mean(0), 0.0);
    }

    private static void lastJointCracked() {
        ColdPanes x = Check.shattered();
        Check.due("cracked", x.count(6), 60);
        Check.due("count(9)", x.count(9), NOTHING);
        Check.due("count(10)", x.count(10), NOTHING);
        Check.due("count(11)", x.count(11), 1);
        Check.due("strained(0)", x.strained(0), NOTHING);
        for (int cell = 0; cell < 36; cell++) {
            Check.due("cell(" + cell + ", 1)", x.cell(cell, 1), cell);
            Check.due("cell(" + cell + ", 2)", x.cell(cell, 2), 0);
            Check.due("cell(" + cell + ", 4)", x.cell(cell, 4), NOTHING);
        }
        Check.due("joint(20, 6)", x.joint(20, 6), 0);
        Check.dueMean("mean(0)", x.mean(0), 750.0);
        Check.due("pass(9)", x.pass(9), 0);
    }

    private static void looksChangeNothing() {
        ColdPanes x = parted();
        int states = x.count(16);
        for (int what = -1; what <= 17; what++) {
            x.cell(3, what);
            x.joint(3, what);
            x.strained(what);
            x.pieces(what);
            x.count(what);
            x.mean(what);
        }
        Check.due("states behind looks", x.count(16), states);
        Check.due("undo()", x.undo(), 3);
        Check.due("cracked", x.count(6), 0);
    }
}
