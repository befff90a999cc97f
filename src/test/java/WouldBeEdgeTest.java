/** The boundary cases that promises 19 to 21 name; each test bears the words that it holds to. */
public final class WouldBeEdgeTest {
    private static final int NOTHING = ColdPanes.NOT_FOUND;
    private static final int[] FAR = {Integer.MIN_VALUE, Integer.MAX_VALUE};

    public static void main(String[] arguments) {
        minutesOfIfPassed();
        whatOfIfPassed();
        howManyWouldCrack();
        theFirstOneFromOneOn();
        theFirstOneInTheLastMinute();
        stressBehindTheMinutes();
        stressAheadOfTheCrack();
        stressWithoutWholeJoints();
        theLossThen();
        heatOfFastest();
        minutesOfFastest();
        theGreatestRates();
        theLeastRate();
        rateOfAFurnaceThatIsThere();
        rateWithThisAim();
        noRateWithoutHarm();
        rateWithoutWholeJoints();
        stressOfEvenIn();
        evenAtOnce();
        notAboveThis();
        evenInTheLastMinute();
        evenBehindACrack();
        evenWithoutWholeJoints();
        nothingIsChanged();
        Check.end();
    }

    /** A pane whose edges give heat to the furnace alone, which goes down by 1: the joint 31 is strained by 1 a minute. */
    private static ColdPanes strainedMinuteByMinute(int strength) {
        ColdPanes x = new ColdPanes();
        x.set(ColdPanes.LEAD, 0);
        x.set(ColdPanes.RIM, 20);
        x.scratch(31, strength);
        x.aim(0, 1);
        return x;
    }

    /** "minutes: 1 to 99". */
    private static void minutesOfIfPassed() {
        for (int what = 0; what <= 3; what++) {
            int number = what;
            for (int minutes : new int[] {0, 100, -1, FAR[0], FAR[1]}) {
                Refused.asInvalid("ifPassed(" + minutes + ", " + what + ")", y -> y.ifPassed(minutes, number));
            }
        }
        ColdPanes x = strainedMinuteByMinute(500);
        Check.due("ifPassed(1, 2)", x.ifPassed(1, 2), 0);
        Check.due("ifPassed(5, 2)", x.ifPassed(5, 2), 1);
        Check.due("ifPassed(6, 2)", x.ifPassed(6, 2), 2);
        Check.due("ifPassed(98, 2)", x.ifPassed(98, 2), 94);
        Check.due("ifPassed(99, 2)", x.ifPassed(99, 2), 95);
    }

    /** "what: 0 .. 3". */
    private static void whatOfIfPassed() {
        for (int what : new int[] {-1, 4, FAR[0], FAR[1]}) {
            Refused.asInvalid("ifPassed(1, " + what + ")", y -> y.ifPassed(1, what));
            Refused.asInvalid("ifPassed(99, " + what + ")", y -> y.ifPassed(99, what));
            Refused.asInvalid("ifPassed(0, " + what + ")", y -> y.ifPassed(0, what));
        }
        ColdPanes x = new ColdPanes();
        int[] due = {0, NOTHING, 0, 0};
        for (int what = 0; what <= 3; what++) {
            Check.due("ifPassed(99, " + what + ")", x.ifPassed(99, what), due[what]);
        }
    }

    /** "0: how many joints would crack": from none to all. */
    private static void howManyWouldCrack() {
        ColdPanes x = Check.still();
        x.heat(14, 100);
        Check.due("ifPassed(99, 0)", x.ifPassed(99, 0), 0);
        x.heat(14, 1);
        for (int minutes = 1; minutes <= 6; minutes++) {
            Check.due("ifPassed(" + minutes + ", 0)", x.ifPassed(minutes, 0), Math.min(4, minutes));
        }
        x.pass(3);
        Check.due("ifPassed(99, 0): not those that cracked", x.ifPassed(99, 0), 1);
        ColdPanes y = Check.still();
        for (int cell = 0; cell < 36; cell++) {
            y.heat(cell, (cell / 6 + cell % 6) % 2 * 101);
        }
        Check.due("ifPassed(59, 0)", y.ifPassed(59, 0), 59);
        Check.due("ifPassed(60, 0)", y.ifPassed(60, 0), 60);
        Check.due("ifPassed(99, 0)", y.ifPassed(99, 0), 60);
    }

    /** "1: in which of these minutes the first one, from 1 on". */
    private static void theFirstOneFromOneOn() {
        ColdPanes x = Check.still();
        x.pass(99);
        x.heat(14, 101);
        Check.due("ifPassed(1, 1)", x.ifPassed(1, 1), 1);
        Check.due("ifPassed(99, 1)", x.ifPassed(99, 1), 1);
        x.pass(1);
        Check.due("ifPassed(1, 1) of the next", x.ifPassed(1, 1), 1);
        x.pass(3);
        Check.due("ifPassed(99, 1) of none", x.ifPassed(99, 1), NOTHING);
    }

    /** "NOT_FOUND if none would": a minute ahead of the first crack. */
    private static void theFirstOneInTheLastMinute() {
        ColdPanes x = strainedMinuteByMinute(94);
        Check.due("ifPassed(98, 1)", x.ifPassed(98, 1), NOTHING);
        Check.due("ifPassed(99, 1)", x.ifPassed(99, 1), 99);
        Check.due("ifPassed(98, 0)", x.ifPassed(98, 0), 0);
        Check.due("ifPassed(99, 0)", x.ifPassed(99, 0), 1);
        ColdPanes y = strainedMinuteByMinute(95);
        Check.due("ifPassed(99, 1) a minute ahead", y.ifPassed(99, 1), NOTHING);
        ColdPanes z = strainedMinuteByMinute(1);
        Check.due("ifPassed(5, 1)", z.ifPassed(5, 1), NOTHING);
        Check.due("ifPassed(6, 1)", z.ifPassed(6, 1), 6);
        Check.due("ifPassed(7, 1)", z.ifPassed(7, 1), 6);
    }

    /** "2: the greatest stress of a whole joint behind any of these minutes": not ahead of the first one. */
    private static void stressBehindTheMinutes() {
        ColdPanes x = new ColdPanes();
        x.set(ColdPanes.LEAD, 20);
        x.set(ColdPanes.RIM, 0);
        x.heat(14, 100);
        Check.due("the stress now", x.count(9), 100);
        Check.due("ifPassed(1, 2): none of 100", x.ifPassed(1, 2), 20);
        Check.due("ifPassed(99, 2): behind the first", x.ifPassed(99, 2), 20);
    }

    /** "(ahead of its crack), ..": a joint that cracks in the minute is whole still. */
    private static void stressAheadOfTheCrack() {
        ColdPanes x = Check.still();
        x.heat(35, 150);
        x.scratch(59, 500);
        Check.due("ifPassed(1, 2)", x.ifPassed(1, 2), 150);
        x.scratch(59, 1);
        x.pass(1);
        Check.due("ifPassed(1, 2) of the joint 29", x.ifPassed(1, 2), 150);
        Check.due("ifPassed(2, 2)", x.ifPassed(2, 2), 150);
        x.pass(1);
        Check.due("ifPassed(1, 2) of the others", x.ifPassed(1, 2), 0);
    }

    /** "0 if there is no whole joint". */
    private static void stressWithoutWholeJoints() {
        ColdPanes x = Check.shattered();
        int[] due = {0, NOTHING, 0, 0};
        for (int what = 0; what <= 3; what++) {
            Check.due("ifPassed(1, " + what + ") of shards", x.ifPassed(1, what), due[what]);
            Check.due("ifPassed(99, " + what + ") of shards", x.ifPassed(99, what), due[what]);
        }
        x.mend(0);
        Check.due("ifPassed(1, 2) of the last joint", x.ifPassed(1, 2), 150);
        Check.due("ifPassed(99, 2) of the last joint", x.ifPassed(99, 2), 150);
    }

    /** "3: the loss then": what was added up ahead, too; also below 0. */
    private static void theLossThen() {
        ColdPanes x = new ColdPanes();
        x.set(ColdPanes.LEAD, 0);
        x.aim(500, 100);
        Check.due("ifPassed(1, 3)", x.ifPassed(1, 3), 24 * 8);
        x.pass(1);
        Check.due("count(5)", x.count(5), 192);
        Check.due("ifPassed(1, 3)", x.ifPassed(1, 3), 192 + 16 * 7 + 8 * 6);
        ColdPanes y = new ColdPanes();
        y.aim(700, 100);
        Check.due("ifPassed(1, 3)", y.ifPassed(1, 3), -192);
        Check.due("count(5) still", y.count(5), 0);
    }

    /** "heat: 0 to 1000: another aim". */
    private static void heatOfFastest() {
        for (int heat : new int[] {-1, 1001, FAR[0], FAR[1]}) {
            Refused.asInvalid("fastest(" + heat + ", 1)", y -> y.fastest(heat, 1));
            Refused.asInvalid("fastest(" + heat + ", 99)", y -> y.fastest(heat, 99));
            Refused.asInvalid("fastest(" + heat + ", 0)", y -> y.fastest(heat, 0));
        }
        for (int heat : new int[] {0, 1000}) {
            ColdPanes x = new ColdPanes();
            x.set(ColdPanes.LEAD, 0);
            x.set(ColdPanes.RIM, 20);
            x.scratch(59, 4);
            Check.due("fastest(" + heat + ", 1)", x.fastest(heat, 1), 24);
        }
    }

    /** "minutes: 1 to 99". */
    private static void minutesOfFastest() {
        for (int minutes : new int[] {0, 100, -1, FAR[0], FAR[1]}) {
            Refused.asInvalid("fastest(0, " + minutes + ")", y -> y.fastest(0, minutes));
            Refused.asInvalid("fastest(1000, " + minutes + ")", y -> y.fastest(1000, minutes));
        }
        ColdPanes x = strainedMinuteByMinute(94);
        Check.due("fastest(0, 98)", x.fastest(0, 98), 1);
        Check.due("fastest(0, 99)", x.fastest(0, 99), NOTHING);
    }

    /** "Returns the greatest rate, 1 to 100": the upper end. */
    private static void theGreatestRates() {
        // In the first minute a corner loses a fifth of the rate more than the edge beside it.
        int[] strengths = {21, 20, 19, 18};
        int[] due = {100, 100, 99, 94};
        for (int place = 0; place < strengths.length; place++) {
            ColdPanes x = new ColdPanes();
            x.set(ColdPanes.LEAD, 0);
            x.set(ColdPanes.RIM, 20);
            x.scratch(0, strengths[place]);
            Check.due("fastest(0, 1) at " + strengths[place], x.fastest(0, 1), due[place]);
            Check.due("fastest(1000, 1) at " + strengths[place], x.fastest(1000, 1), due[place]);
        }
    }

    /** "1 to 100 .. NOT_FOUND if there is none": the lower end. */
    private static void theLeastRate() {
        ColdPanes x = strainedMinuteByMinute(95);
        Check.due("fastest(0, 99): 1", x.fastest(0, 99), 1);
        x.scratch(31, 94);
        Check.due("fastest(0, 99): none", x.fastest(0, 99), NOTHING);
        x.scratch(31, 190);
        Check.due("fastest(0, 50): 2 or more", x.fastest(0, 50) >= 2 ? 1 : 0, 1);
        ColdPanes y = strainedMinuteByMinute(1);
        Check.due("fastest(0, 5)", y.fastest(0, 5), 1);
        Check.due("fastest(0, 6)", y.fastest(0, 6), NOTHING);
    }

    private static void rateOfAFurnaceThatIsThere() {
        ColdPanes x = new ColdPanes();
        Check.due("fastest(600, 99)", x.fastest(600, 99), 100);
        Check.due("fastest(600, 1)", x.fastest(600, 1), 100);
        ColdPanes y = strainedMinuteByMinute(1);
        // A side gives 1 at a difference of 5, so that the edge loses 1 by 595 and 2 by 594.
        Check.due("fastest(595, 99): too little to harm", y.fastest(595, 99), 100);
        Check.due("fastest(594, 99)", y.fastest(594, 99), NOTHING);
    }

    /** "with this aim": and with no other rate than the one that is tried. */
    private static void rateWithThisAim() {
        ColdPanes x = strainedMinuteByMinute(1);
        x.aim(0, 100);
        Check.due("fastest(600, 99)", x.fastest(600, 99), 100);
        x.aim(600, 1);
        Check.due("fastest(0, 6)", x.fastest(0, 6), NOTHING);
        Check.due("fastest(0, 5)", x.fastest(0, 5), 1);
        Check.due("aim", x.count(1), 600);
        Check.due("rate", x.count(2), 1);
    }

    /** "NOT_FOUND if there is none": a joint that cracks whatever the rate is. */
    private static void noRateWithoutHarm() {
        ColdPanes x = Check.still();
        x.heat(14, 100);
        Check.due("fastest(0, 99)", x.fastest(0, 99), 100);
        x.heat(14, 1);
        Check.due("fastest(0, 1)", x.fastest(0, 1), NOTHING);
        Check.due("fastest(600, 1)", x.fastest(600, 1), NOTHING);
        x.pass(4);
        Check.due("behind its cracks", x.fastest(0, 99), 100);
    }

    private static void rateWithoutWholeJoints() {
        ColdPanes x = Check.shattered();
        x.set(ColdPanes.RIM, 20);
        Check.due("fastest(0, 99)", x.fastest(0, 99), 100);
        Check.due("fastest(1000, 99)", x.fastest(1000, 99), 100);
        x.mend(0);
        Check.due("fastest(0, 99) of the last joint", x.fastest(0, 99), NOTHING);
    }

    /** "stress: 0 to 500". */
    private static void stressOfEvenIn() {
        for (int stress : new int[] {-1, 501, FAR[0], FAR[1]}) {
            Refused.asInvalid("evenIn(" + stress + ")", y -> y.evenIn(stress));
        }
        ColdPanes x = Check.still();
        for (int joint : new int[] {0, 30}) {
            x.scratch(joint, 500);
        }
        for (int flames = 0; flames < 5; flames++) {
            x.heat(0, 100);
        }
        Check.due("evenIn(500) at 500", x.evenIn(500), 0);
        Check.due("evenIn(499) at 500, which stays", x.evenIn(499), NOTHING);
        Check.due("evenIn(0) at 500, which stays", x.evenIn(0), NOTHING);
        x.heat(0, 1);
        Check.due("evenIn(500) at 501, behind two cracks", x.evenIn(500), 2);
    }

    /** "the least number of minutes, 0 to 99": 0, as things are. */
    private static void evenAtOnce() {
        ColdPanes x = new ColdPanes();
        Check.due("evenIn(0)", x.evenIn(0), 0);
        Check.due("evenIn(500)", x.evenIn(500), 0);
        x.aim(0, 100);
        Check.due("evenIn(0), ahead of all strain", x.evenIn(0), 0);
        x.heat(14, 1);
        Check.due("evenIn(1)", x.evenIn(1), 0);
        Check.due("evenIn(0)", x.evenIn(0), NOTHING);
    }

    /** "the stress of no whole joint would be above this": it may be as great. */
    private static void notAboveThis() {
        ColdPanes x = new ColdPanes();
        x.set(ColdPanes.RIM, 0);
        x.set(ColdPanes.LEAD, 20);
        x.heat(14, 100);
        Check.due("evenIn(100)", x.evenIn(100), 0);
        Check.due("evenIn(99)", x.evenIn(99), 1);
        Check.due("evenIn(20)", x.evenIn(20), 1);
        Check.dueTrue("evenIn(19)", x.evenIn(19) > 1);
    }

    /** "0 to 99"; "NOT_FOUND if that is more than 99". */
    private static void evenInTheLastMinute() {
        ColdPanes x = new ColdPanes();
        x.set(ColdPanes.LEAD, 0);
        x.set(ColdPanes.RIM, 20);
        for (int row = 1; row <= 4; row++) {
            for (int column = 1; column <= 4; column++) {
                x.heat(6 * row + column, -100);
            }
        }
        x.aim(450, 1);
        // From the fifth minute on an edge is at 604 less the minutes; the cells within stay at 500.
        Check.due("evenIn(6)", x.evenIn(6), 98);
        Check.due("evenIn(5)", x.evenIn(5), 99);
        Check.due("evenIn(4)", x.evenIn(4), NOTHING);
        x.pass(1);
        Check.due("evenIn(4) a minute later", x.evenIn(4), 99);
        Check.due("evenIn(3) a minute later", x.evenIn(3), NOTHING);
    }

    /** "behind which": behind the crack of the last minute, too. */
    private static void evenBehindACrack() {
        ColdPanes x = Check.still();
        x.heat(0, 101);
        Check.due("evenIn(101)", x.evenIn(101), 0);
        Check.due("evenIn(100)", x.evenIn(100), 2);
        x.pass(1);
        Check.due("evenIn(100)", x.evenIn(100), 1);
        x.pass(1);
        Check.due("evenIn(0)", x.evenIn(0), 0);
    }

    /** "of no whole joint": there is none that could be strained. */
    private static void evenWithoutWholeJoints() {
        ColdPanes x = Check.shattered();
        Check.due("evenIn(0)", x.evenIn(0), 0);
        Check.due("evenIn(500)", x.evenIn(500), 0);
        x.mend(0);
        Check.due("evenIn(150) of one joint", x.evenIn(150), 0);
        Check.due("evenIn(149) of one joint", x.evenIn(149), 1);
        Check.due("evenIn(0) of one joint", x.evenIn(0), 1);
    }

    /** "what would be; nothing is changed". */
    private static void nothingIsChanged() {
        ColdPanes x = Refused.lively();
        int[] due = new int[4];
        for (int what = 0; what <= 3; what++) {
            int number = what;
            due[what] = x.ifPassed(99, what);
            Refused.in(Refused::lively, "ifPassed(99, " + what + ")", y -> y.ifPassed(99, number), due[what]);
        }
        int rate = x.fastest(0, 99);
        int minutes = x.evenIn(20);
        Refused.in(Refused::lively, "fastest(0, 99)", y -> y.fastest(0, 99), rate);
        Refused.in(Refused::lively, "evenIn(20)", y -> y.evenIn(20), minutes);
        Refused.in(Refused::shards, "ifPassed(99, 1)", y -> y.ifPassed(99, 1), NOTHING);
        Refused.in(Refused::shards, "fastest(0, 99)", y -> y.fastest(0, 99), 100);
        Refused.in(Refused::shards, "evenIn(0)", y -> y.evenIn(0), 0);
    }
}
