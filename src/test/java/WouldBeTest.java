/** Promises 19 to 21. */
public final class WouldBeTest {
    private static final int BAD = ColdPanes.INVALID_ARGUMENT;
    private static final int NOTHING = ColdPanes.NOT_FOUND;

    public static void main(String[] arguments) {
        ifPassed();
        ifPassedStress();
        ifPassedLoss();
        fastest();
        fastestIsAtLeastOne();
        fastestWhereALesserRateHarms();
        evenIn();
        evenInTheLastMinute();
        evenInByCracks();
        withoutWholeJoints();
        nothingIsChanged();
        Check.end();
    }

    private static void ifPassed() {
        ColdPanes x = Check.still();
        Check.due("ifPassed(0, 0)", x.ifPassed(0, 0), BAD);
        Check.due("ifPassed(100, 0)", x.ifPassed(100, 0), BAD);
        Check.due("ifPassed(1, -1)", x.ifPassed(1, -1), BAD);
        Check.due("ifPassed(1, 4)", x.ifPassed(1, 4), BAD);
        Check.due("ifPassed(99, 0)", x.ifPassed(99, 0), 0);
        Check.due("ifPassed(99, 1)", x.ifPassed(99, 1), NOTHING);
        x.pass(10);
        x.heat(14, 101);
        Check.due("ifPassed(1, 0)", x.ifPassed(1, 0), 1);
        Check.due("ifPassed(3, 0)", x.ifPassed(3, 0), 3);
        Check.due("ifPassed(99, 0)", x.ifPassed(99, 0), 4);
        Check.due("ifPassed(99, 1): of these minutes", x.ifPassed(99, 1), 1);
        ColdPanes y = new ColdPanes();
        y.set(ColdPanes.LEAD, 0);
        y.set(ColdPanes.RIM, 20);
        y.scratch(0, 19);
        y.aim(0, 50);
        // The corner and the cell beside it are at 580 and 590, and then at 548 and 572.
        Check.due("ifPassed(1, 1)", y.ifPassed(1, 1), NOTHING);
        Check.due("ifPassed(9, 1)", y.ifPassed(9, 1), 2);
    }

    private static void ifPassedStress() {
        ColdPanes x = new ColdPanes();
        x.set(ColdPanes.LEAD, 20);
        x.set(ColdPanes.RIM, 0);
        x.heat(14, 100);
        Check.due("ifPassed(1, 2): not ahead of the minute", x.ifPassed(1, 2), 20);
        ColdPanes y = Check.still();
        y.heat(0, 150);
        y.scratch(0, 1);
        y.scratch(30, 1);
        Check.due("ifPassed(1, 2): ahead of the crack", y.ifPassed(1, 2), 150);
        Check.due("ifPassed(2, 2)", y.ifPassed(2, 2), 150);
        y.pass(2);
        Check.due("ifPassed(1, 2): whole joints alone", y.ifPassed(1, 2), 0);
    }

    private static void ifPassedLoss() {
        ColdPanes x = new ColdPanes();
        x.aim(500, 100);
        x.pass(1);
        Check.due("loss", x.count(5), 192);
        // Behind this minute edges lost 8 and corners 16; then the sides give 7 and 6 more.
        Check.due("ifPassed(1, 3): all the loss", x.ifPassed(1, 3), 192 + 16 * 7 + 8 * 6);
        Check.due("loss still", x.count(5), 192);
    }

    private static void fastest() {
        ColdPanes x = new ColdPanes();
        Check.due("fastest(-1, 1)", x.fastest(-1, 1), BAD);
        Check.due("fastest(1001, 1)", x.fastest(1001, 1), BAD);
        Check.due("fastest(0, 0)", x.fastest(0, 0), BAD);
        Check.due("fastest(0, 100)", x.fastest(0, 100), BAD);
        x.set(ColdPanes.LEAD, 0);
        x.set(ColdPanes.RIM, 20);
        x.scratch(0, 5);
        // In the first minute the corner loses a fifth of the rate more than the cell beside it.
        Check.due("fastest(0, 1)", x.fastest(0, 1), 29);
        Check.due("fastest(1000, 1)", x.fastest(1000, 1), 29);
        Check.due("fastest(571, 1)", x.fastest(571, 1), 100);
        Check.due("fastest(570, 1)", x.fastest(570, 1), 29);
        Check.due("fastest(600, 99)", x.fastest(600, 99), 100);
        x.scratch(0, 1);
        Check.due("fastest(0, 1)", x.fastest(0, 1), 9);
        ColdPanes y = Check.still();
        y.heat(14, 101);
        Check.due("fastest without any", y.fastest(0, 1), NOTHING);
    }

    private static void fastestIsAtLeastOne() {
        ColdPanes x = new ColdPanes();
        x.set(ColdPanes.LEAD, 0);
        x.set(ColdPanes.RIM, 20);
        x.scratch(31, 1);
        // With the rate 1 the edge loses 1 a minute from the fifth one on; the cell within keeps its heat.
        Check.due("fastest(0, 5)", x.fastest(0, 5), 1);
        Check.due("fastest(0, 6): only a furnace that stays would do no harm", x.fastest(0, 6), NOTHING);
    }

    private static void fastestWhereALesserRateHarms() {
        ColdPanes x = new ColdPanes();
        x.begin(500);
        x.set(ColdPanes.LEAD, 0);
        x.set(ColdPanes.RIM, 20);
        x.heat(7, -110);
        x.scratch(6, 500);
        x.scratch(37, 500);
        Check.due("rates below 50 leave the cold cell's joints too strained", x.fastest(0, 1), 100);
        Check.due("fastest(451, 1)", x.fastest(451, 1), NOTHING);
        x.scratch(0, 15);
        Check.due("and rates above 79 strain the corner", x.fastest(0, 1), 79);
        x.aim(0, 49);
        Check.due("pass(1) with 49", x.pass(1), 1);
        x.undo();
        x.aim(0, 50);
        Check.due("pass(1) with 50", x.pass(1), 0);
    }

    private static void evenIn() {
        ColdPanes x = new ColdPanes();
        Check.due("evenIn(-1)", x.evenIn(-1), BAD);
        Check.due("evenIn(501)", x.evenIn(501), BAD);
        Check.due("evenIn(0)", x.evenIn(0), 0);
        Check.due("evenIn(500)", x.evenIn(500), 0);
        x.set(ColdPanes.LEAD, 0);
        x.set(ColdPanes.RIM, 20);
        x.heat(1, 100);
        // The edge is at 100, 80, 64, 52, 42, 34, 28, 23, 19, 16, 13, 11, 9, 8, 7, 6, 5, 4 more, and stays there.
        Check.due("evenIn(100)", x.evenIn(100), 0);
        Check.due("evenIn(99)", x.evenIn(99), 1);
        Check.due("evenIn(80)", x.evenIn(80), 1);
        Check.due("evenIn(79)", x.evenIn(79), 2);
        Check.due("evenIn(63)", x.evenIn(63), 3);
        Check.due("evenIn(4)", x.evenIn(4), 17);
        Check.due("evenIn(3)", x.evenIn(3), NOTHING);
        ColdPanes y = new ColdPanes();
        y.set(ColdPanes.LEAD, 0);
        y.set(ColdPanes.RIM, 20);
        y.aim(499, 1);
        y.scratch(0, 500);
        Check.due("a hold goes on to the aim", y.evenIn(0), 0);
        y.pass(99);
        int stress = y.joint(0, 4);
        Check.dueTrue("the corner is ahead of the edge", stress > 0);
        Check.due("behind 0 minutes", y.evenIn(y.count(9)), 0);
    }

    private static void evenInTheLastMinute() {
        ColdPanes x = new ColdPanes();
        x.set(ColdPanes.LEAD, 0);
        x.set(ColdPanes.RIM, 20);
        for (int row = 1; row <= 4; row++) {
            for (int column = 1; column <= 4; column++) {
                x.heat(6 * row + column, -100);
            }
        }
        x.aim(450, 1);
        // From the fifth minute on an edge is at 604 less the minutes; the cells within stay at 500.
        Check.due("evenIn(30)", x.evenIn(30), 74);
        Check.due("evenIn(5)", x.evenIn(5), 99);
        Check.due("evenIn(4)", x.evenIn(4), NOTHING);
    }

    private static void evenInByCracks() {
        ColdPanes x = Check.still();
        x.heat(14, 101);
        Check.due("evenIn(101)", x.evenIn(101), 0);
        Check.due("evenIn(100): behind the cracks", x.evenIn(100), 4);
        Check.due("evenIn(0)", x.evenIn(0), 4);
        ColdPanes y = Check.still();
        for (int cell = 0; cell < 36; cell++) {
            if ((cell / 6 + cell % 6) % 2 == 0) {
                y.heat(cell, 150);
            }
        }
        Check.due("evenIn(0) of 60 cracks", y.evenIn(0), 60);
        Check.due("evenIn(149) of 60 cracks", y.evenIn(149), 60);
    }

    private static void withoutWholeJoints() {
        ColdPanes x = Check.shattered();
        Check.due("ifPassed(9, 0)", x.ifPassed(9, 0), 0);
        Check.due("ifPassed(9, 1)", x.ifPassed(9, 1), NOTHING);
        Check.due("ifPassed(9, 2)", x.ifPassed(9, 2), 0);
        Check.due("fastest(0, 99)", x.fastest(0, 99), 100);
        Check.due("evenIn(0)", x.evenIn(0), 0);
    }

    private static void nothingIsChanged() {
        ColdPanes x = new ColdPanes();
        x.aim(0, 100);
        x.heat(14, 150);
        Check.write(x, "h1");
        x.save();
        int[] before = new int[17];
        for (int what = 0; what < 17; what++) {
            before[what] = x.count(what);
        }
        x.ifPassed(99, 0);
        x.fastest(100, 99);
        x.evenIn(0);
        for (int what = 0; what < 17; what++) {
            Check.due("count(" + what + ") behind looks ahead", x.count(what), before[what]);
        }
        Check.due("cell(14, 0)", x.cell(14, 0), 750);
        Check.due("restore()", x.restore(), 0);
        Check.due("aim", x.count(1), 0);
    }
}
