import java.util.function.Supplier;
import java.util.regex.Pattern;

/** The boundary cases that "Texts" and promises 9 to 12 name; each test bears the words that it holds to. */
public final class TextEdgeTest {
    private static final int IMPOSSIBLE = ColdPanes.NOT_POSSIBLE;
    private static final int FULL = ColdPanes.LIMIT_REACHED;
    private static final int NOTHING = ColdPanes.NOT_FOUND;
    private static final String DIGITS = "0123456789";
    private static final Pattern COMPLETE = Pattern.compile("(.*;)?(h|[0-9]+/[0-9]+x)[0-9]+");

    public static void main(String[] arguments) {
        codeOfAppend();
        sixtyCharacters();
        refusedByAFullPad();
        clearOfAnEmptyAndOfAFullPad();
        clearMakesRoom();
        padInitiallyEmpty();
        nextCharacters();
        nextCharactersAtTheEndOfThePad();
        numbersOfAims();
        numbersOfRates();
        numbersOfMinutes();
        needlessNothingAhead();
        programsOfAnyLength();
        theFirstWrongCharacter();
        faultOfAPadThatIsNotComplete();
        faultChangesNothing();
        runOfAFault();
        runOfTheLeastAndTheGreatestNumbers();
        runOfAHold();
        numberOfSegments();
        crackInTheFirstMinute();
        crackInTheLastMinute();
        crackInTheLastSegment();
        cracksOfFormerMinutes();
        runIsOneChange();
        padIsEmptied();
        Check.end();
    }

    /** "code: the character code, 33 to 126"; "Returns the length of the pad then". */
    private static void codeOfAppend() {
        ColdPanes x = new ColdPanes();
        Check.due("append(33)", x.append(33), 1);
        Check.due("append(126)", x.append(126), 2);
        for (int code : new int[] {32, 127, 0, -1, 33 - 65536, 33 + 65536, 256 + 48, Integer.MIN_VALUE, Integer.MAX_VALUE}) {
            Refused.asInvalid("append(" + code + ")", y -> y.append(code));
        }
        ColdPanes z = new ColdPanes();
        for (int code = 33; code <= 92; code++) {
            Check.due("append(" + code + ")", z.append(code), code - 32);
        }
        z.clear();
        for (int code = 93; code <= 126; code++) {
            Check.due("append(" + code + ")", z.append(code), code - 92);
        }
    }

    /** "a pad of at most 60 characters". */
    private static void sixtyCharacters() {
        ColdPanes x = new ColdPanes();
        for (int length = 1; length <= 60; length++) {
            Check.due("append(104)", x.append('h'), length);
            Check.due("count(15)", x.count(15), length);
        }
        Check.due("append(104)", x.append('h'), FULL);
        Check.due("count(15)", x.count(15), 60);
    }

    /** "LIMIT_REACHED if it has 60 characters"; "INVALID_ARGUMENT is returned rather than .. LIMIT_REACHED". */
    private static void refusedByAFullPad() {
        for (int code : new int[] {33, 126, '1'}) {
            Refused.in(Refused::shards, "append(" + code + ")", y -> y.append(code), FULL);
            Refused.in(() -> written(segments(20)), "append(" + code + ")", y -> y.append(code), FULL);
        }
        for (int code : new int[] {32, 127}) {
            Refused.asInvalid("append(" + code + ")", y -> y.append(code));
        }
    }

    /** "Empties the pad."; "Returns the length that it had." */
    private static void clearOfAnEmptyAndOfAFullPad() {
        ColdPanes x = new ColdPanes();
        Check.due("clear()", x.clear(), 0);
        Check.due("count(15)", x.count(15), 0);
        Check.write(x, segments(20));
        Check.due("clear()", x.clear(), 60);
        Check.due("count(15)", x.count(15), 0);
        Check.due("clear() once more", x.clear(), 0);
        Check.due("states", x.count(16), 0);
    }

    private static void clearMakesRoom() {
        ColdPanes x = written(segments(20));
        x.clear();
        Check.due("fault()", x.fault(), 0);
        Check.due("append(104)", x.append('h'), 1);
        Check.due("fault(): nothing of the old text", x.fault(), 1);
        Check.write(x, segments(20));
        Check.due("append(48)", x.append('0'), FULL);
        Check.due("fault()", x.fault(), NOTHING);
    }

    /** "initially empty". */
    private static void padInitiallyEmpty() {
        ColdPanes x = new ColdPanes();
        Check.due("count(15)", x.count(15), 0);
        Check.due("clear()", x.clear(), 0);
        Check.due("fault()", x.fault(), 0);
        Check.due("append(104)", x.append('h'), 1);
    }

    /** What may stand behind what, tried with each character that a pad takes. */
    private static void nextCharacters() {
        for (String ahead : new String[] {"", "h1;", "7/7x7;", "h99;1000/100x99;"}) {
            dueNext(ahead, "h" + DIGITS);
            dueNext(ahead + "h", "123456789");
            dueNext(ahead + "h1", DIGITS + ";");
            dueNext(ahead + "h9", DIGITS + ";");
            dueNext(ahead + "h10", ";");
            dueNext(ahead + "h99", ";");
            dueNext(ahead + "0", "/");
            dueNext(ahead + "1", DIGITS + "/");
            dueNext(ahead + "9", DIGITS + "/");
            dueNext(ahead + "10", DIGITS + "/");
            dueNext(ahead + "99", DIGITS + "/");
            dueNext(ahead + "100", "0/");
            dueNext(ahead + "101", "/");
            dueNext(ahead + "999", "/");
            dueNext(ahead + "1000", "/");
            dueNext(ahead + "0/", "123456789");
            dueNext(ahead + "0/1", DIGITS + "x");
            dueNext(ahead + "0/9", DIGITS + "x");
            dueNext(ahead + "0/10", "0x");
            dueNext(ahead + "0/11", "x");
            dueNext(ahead + "0/99", "x");
            dueNext(ahead + "0/100", "x");
            dueNext(ahead + "0/1x", "123456789");
            dueNext(ahead + "0/1x1", DIGITS + ";");
            dueNext(ahead + "0/1x9", DIGITS + ";");
            dueNext(ahead + "0/1x10", ";");
            dueNext(ahead + "0/1x99", ";");
        }
    }

    /** The same where the character is the sixtieth, which needs no room behind it: "of any length". */
    private static void nextCharactersAtTheEndOfThePad() {
        dueNext(Check.repeated("h1;", 19) + "h1", DIGITS + ";");
        dueNext(Check.repeated("h1;", 18) + "h1;h", "123456789");
        dueNext(Check.repeated("h1;", 18) + "h10;h", "123456789");
        dueNext(Check.repeated("h1;", 17) + "h10;h10;", "h" + DIGITS);
        dueNext(Check.repeated("h1;", 19) + "10", DIGITS + "/");
        dueNext(Check.repeated("h1;", 18) + "100/1", DIGITS + "x");
        dueNext(Check.repeated("h1;", 18) + "10/1x", "123456789");
    }

    private static void dueNext(String ahead, String allowed) {
        for (char code = 33; code <= 126; code++) {
            String text = ahead + code;
            int due = ahead.length();
            if (allowed.indexOf(code) >= 0) {
                due = COMPLETE.matcher(text).matches() ? NOTHING : text.length();
            }
            dueFault(text, due);
        }
    }

    /** "a number 0 to 1000 (an aim)". */
    private static void numbersOfAims() {
        for (int aim : new int[] {0, 1, 9, 10, 99, 100, 101, 999, 1000}) {
            dueFault(aim + "/1x1", NOTHING);
        }
        dueFault("1001/1x1", 3);
        dueFault("1010/1x1", 3);
        dueFault("1100/1x1", 3);
        dueFault("2000/1x1", 3);
        dueFault("9999/1x1", 3);
        dueFault("10000/1x1", 4);
        dueFault("-1/1x1", 0);
        dueFault("+1/1x1", 0);
        dueFault("/1x1", 0);
    }

    /** "a number 1 to 100 (a rate)". */
    private static void numbersOfRates() {
        for (int rate : new int[] {1, 9, 10, 11, 99, 100}) {
            dueFault("5/" + rate + "x1", NOTHING);
        }
        dueFault("5/0x1", 2);
        dueFault("5/101x1", 4);
        dueFault("5/110x1", 4);
        dueFault("5/200x1", 4);
        dueFault("5/999x1", 4);
        dueFault("5/1000x1", 5);
        dueFault("5/-1x1", 2);
        dueFault("5/x1", 2);
    }

    /** "a number 1 to 99 (minutes)"; "'h' and a number 1 to 99". */
    private static void numbersOfMinutes() {
        for (String ahead : new String[] {"5/5x", "h"}) {
            int at = ahead.length();
            for (int minutes : new int[] {1, 9, 10, 11, 98, 99}) {
                dueFault(ahead + minutes, NOTHING);
            }
            dueFault(ahead + "0", at);
            dueFault(ahead + "100", at + 2);
            dueFault(ahead + "101", at + 2);
            dueFault(ahead + "990", at + 2);
            dueFault(ahead + "-1", at);
            dueFault(ahead + ";", at);
        }
    }

    /** "Numbers have no needless 0 ahead." */
    private static void needlessNothingAhead() {
        dueFault("00/1x1", 1);
        dueFault("05/1x1", 1);
        dueFault("01000/1x1", 1);
        dueFault("5/01x1", 2);
        dueFault("5/1x01", 4);
        dueFault("h01", 1);
        dueFault("0/1x1", NOTHING);
        dueFault("100/100x10", NOTHING);
    }

    /** "one or more segments with ';' between two". */
    private static void programsOfAnyLength() {
        dueFault("h1", NOTHING);
        dueFault("h1;h1", NOTHING);
        dueFault("h1;", 3);
        dueFault(";h1", 0);
        dueFault("h1;;h1", 3);
        dueFault("h1h1", 2);
        dueFault("5/5x5h1", 5);
        dueFault("5/5x5;h1;5/5x5", NOTHING);
        dueFault(segments(20), NOTHING);
        dueFault(Check.repeated("h1;", 20), 60);
        dueFault("1000/100x99;1000/100x99;1000/100x99;1000/100x99;1000/100x99", NOTHING);
        dueFault("1000/100x99;1000/100x99;1000/100x99;1000/100x99;1000/100x99;", 60);
    }

    /** "the first character that is wrong". */
    private static void theFirstWrongCharacter() {
        dueFault("?", 0);
        dueFault("?h1", 0);
        dueFault("h1;?;?", 3);
        dueFault("h?1", 1);
        dueFault("1001", 3);
        dueFault(Check.repeated("h", 60), 1);
        dueFault(segments(19) + ";zz", 57);
        dueFault(segments(20).substring(0, 59) + "z", 59);
        dueFault("H1", 0);
        dueFault("5/5X5", 3);
    }

    /** "if there is none, and the pad is not complete (also if it is empty), the length of the pad". */
    private static void faultOfAPadThatIsNotComplete() {
        String whole = "h10;1000/100x99;0/1x1";
        for (int length = 0; length <= whole.length(); length++) {
            String text = whole.substring(0, length);
            boolean complete = length == 2 || length == 3 || length == 14 || length == 15 || length == 21;
            dueFault(text, complete ? NOTHING : length);
        }
        dueFault(Check.repeated("h1;", 19) + "5/", 59);
        dueFault(Check.repeated("h1;", 19) + "5/5", 60);
        dueFault(Check.repeated("h1;", 19) + "h", 58);
        dueFault(Check.repeated("h1;", 18) + "h10;5/", 60);
        dueFault(Check.repeated("h1;", 17) + "h10;h10;h", 60);
    }

    private static void dueFault(String text, int due) {
        ColdPanes x = written(text);
        Check.due("fault() of \"" + text + "\"", x.fault(), due);
        Check.due("fault() of \"" + text + "\" once more", x.fault(), due);
        Check.due("count(15) of \"" + text + "\"", x.count(15), text.length());
        if (due != NOTHING) {
            Check.due("run() of \"" + text + "\"", x.run(), IMPOSSIBLE);
            Check.due("count(15) behind run() of \"" + text + "\"", x.count(15), text.length());
        }
    }

    private static ColdPanes written(String text) {
        ColdPanes x = new ColdPanes();
        Check.write(x, text);
        return x;
    }

    /** "h1;h1 .." of the number of segments; of twenty the last one is "h11", so that the pad is full. */
    private static String segments(int number) {
        return Check.repeated("h1;", number - 1) + (number == 20 ? "h11" : "h1");
    }

    private static void faultChangesNothing() {
        Refused.in(ColdPanes::new, "fault()", ColdPanes::fault, 0);
        Refused.in(Refused::lively, "fault()", ColdPanes::fault, NOTHING);
        Refused.in(Refused::shards, "fault()", ColdPanes::fault, 60);
    }

    /** "NOT_POSSIBLE if the pad has a fault"; "(the pad stays, too)". */
    private static void runOfAFault() {
        Refused.in(ColdPanes::new, "run() of an empty pad", ColdPanes::run, IMPOSSIBLE);
        Refused.in(Refused::shards, "run() of shards", ColdPanes::run, IMPOSSIBLE);
        for (String text : new String[] {"h", "h1;", "5/7", "250/30", "h1;5/5", "h1;?", "?"}) {
            Supplier<ColdPanes> state = () -> {
                ColdPanes x = Refused.lively();
                Check.write(x, text);
                return x;
            };
            Refused.in(state, "run() of \"" + text + "\"", ColdPanes::run, IMPOSSIBLE);
        }
        ColdPanes y = written("h1;25");
        Check.due("run()", y.run(), IMPOSSIBLE);
        Check.due("no segment is run", y.count(3), 0);
        for (char sign : "/7x3".toCharArray()) {
            y.append(sign);
        }
        Check.due("run() of what has become complete", y.run(), 2);
        Check.due("aim", y.count(1), 25);
        Check.due("rate", y.count(2), 7);
        Check.due("minutes", y.count(3), 4);
    }

    /** The numbers at the ends of "0 to 1000", "1 to 100" and "1 to 99" mean what they tell. */
    private static void runOfTheLeastAndTheGreatestNumbers() {
        ColdPanes x = Check.still();
        Check.write(x, "0/1x1");
        Check.due("run()", x.run(), 1);
        Check.due("aim", x.count(1), 0);
        Check.due("rate", x.count(2), 1);
        Check.due("minutes", x.count(3), 1);
        Check.due("furnace", x.count(0), 599);
        Check.write(x, "1000/100x99");
        Check.due("run()", x.run(), 1);
        Check.due("aim", x.count(1), 1000);
        Check.due("rate", x.count(2), 100);
        Check.due("minutes", x.count(3), 100);
        Check.due("furnace", x.count(0), 1000);
        Check.write(x, "1/10x99;10/99x1;h99;h10");
        Check.due("run()", x.run(), 4);
        Check.due("aim", x.count(1), 10);
        Check.due("rate", x.count(2), 99);
        Check.due("minutes", x.count(3), 100 + 99 + 1 + 99 + 10);
    }

    /** "(to hold: minutes with the aim and the rate as they are)". */
    private static void runOfAHold() {
        ColdPanes x = Check.still();
        x.aim(0, 7);
        Check.write(x, "h1");
        Check.due("run()", x.run(), 1);
        Check.due("furnace", x.count(0), 593);
        Check.due("aim", x.count(1), 0);
        Check.due("rate", x.count(2), 7);
        Check.write(x, "1000/11x1;h2;500/1x1;h9");
        Check.due("run()", x.run(), 4);
        Check.due("furnace: 3 minutes up, 10 down", x.count(0), 593 + 3 * 11 - 10);
        Check.due("aim", x.count(1), 500);
        Check.due("rate", x.count(2), 1);
        Check.due("minutes", x.count(3), 14);
    }

    /** "Returns how many segments are run": from one to as many as a pad holds. */
    private static void numberOfSegments() {
        for (int number = 1; number <= 20; number++) {
            ColdPanes x = written(segments(number));
            Check.due("run() of " + number, x.run(), number);
            Check.due("minutes of " + number, x.count(3), number == 20 ? 30 : number);
        }
        ColdPanes y = written("1/1x1;2/2x2;3/3x3;4/4x4;5/5x5;6/6x6;7/7x7;8/8x8;9/9x9;10/9x1");
        Check.due("run()", y.run(), 10);
        Check.due("minutes", y.count(3), 46);
        Check.due("aim", y.count(1), 10);
        Check.due("rate", y.count(2), 9);
    }

    /** "a segment in which a joint cracks is run to its end, and is the last one". */
    private static void crackInTheFirstMinute() {
        ColdPanes x = Check.still();
        x.heat(0, 101);
        x.scratch(30, 500);
        Check.write(x, "500/10x9;0/100x9;h9");
        Check.due("run()", x.run(), 1);
        Check.due("cracked", x.count(6), 1);
        Check.due("minutes", x.count(3), 9);
        Check.due("furnace", x.count(0), 510);
        Check.due("aim", x.count(1), 500);
        Check.due("rate", x.count(2), 10);
    }

    /** A pane whose joint 0 cracks in the second minute of a furnace that goes to 0 by 50. */
    private static ColdPanes crackingInTheSecondMinute() {
        ColdPanes x = new ColdPanes();
        x.set(ColdPanes.LEAD, 0);
        x.set(ColdPanes.RIM, 20);
        x.scratch(0, 19);
        return x;
    }

    private static void crackInTheLastMinute() {
        ColdPanes x = crackingInTheSecondMinute();
        Check.write(x, "0/50x2;h1");
        Check.due("run()", x.run(), 1);
        Check.due("joint(0, 5)", x.joint(0, 5), 2);
        Check.due("minutes", x.count(3), 2);
        ColdPanes y = crackingInTheSecondMinute();
        Check.write(y, "0/50x1;600/1x1;h1");
        Check.due("run() that turns back ahead of the crack", y.run(), 3);
        Check.due("cracked", y.count(6), 0);
    }

    private static void crackInTheLastSegment() {
        ColdPanes x = crackingInTheSecondMinute();
        Check.write(x, "0/50x1;h1");
        Check.due("run()", x.run(), 2);
        Check.due("cracked", x.count(6), 1);
        Check.due("minutes", x.count(3), 2);
        ColdPanes y = crackingInTheSecondMinute();
        Check.write(y, "0/50x1;h1;h1");
        Check.due("run()", y.run(), 2);
        Check.due("cracked", y.count(6), 1);
        Check.due("minutes", y.count(3), 2);
    }

    /** "a segment in which a joint cracks": not one behind which joints are cracked already. */
    private static void cracksOfFormerMinutes() {
        ColdPanes x = Check.shattered();
        Check.write(x, "h1;500/5x5;h2");
        Check.due("run() of a pane without whole joints", x.run(), 3);
        Check.due("minutes", x.count(3), 68);
        ColdPanes y = Check.still();
        y.heat(0, 101);
        y.pass(2);
        Check.write(y, "h1;h1");
        Check.due("run() of a pane with cracks", y.run(), 2);
    }

    /** "This is one change." */
    private static void runIsOneChange() {
        ColdPanes x = written("400/30x5;h3;700/1x2");
        Check.due("run()", x.run(), 3);
        Check.due("states", x.count(16), 1);
        Check.due("undo()", x.undo(), 0);
        Check.due("minutes", x.count(3), 0);
        Check.due("furnace", x.count(0), 600);
        Check.due("aim", x.count(1), 600);
        Check.due("rate", x.count(2), 10);
        Check.due("sum", x.count(4), 21600);
        ColdPanes y = Refused.lively();
        Check.due("run() with a full history", y.run(), 2);
        Check.due("states", y.count(16), 4);
        Check.due("undo()", y.undo(), 3);
        Check.due("undo() of pass(5)", y.undo(), 2);
        Check.due("minutes", y.count(3), 2);
    }

    /** "The pad is emptied.", which undo() leaves so. */
    private static void padIsEmptied() {
        ColdPanes x = written(segments(20));
        Check.due("run()", x.run(), 20);
        Check.due("count(15)", x.count(15), 0);
        Check.due("fault()", x.fault(), 0);
        Refused.in(TextEdgeTest::emptiedByRun, "run() once more", ColdPanes::run, IMPOSSIBLE);
        Check.due("undo()", x.undo(), 0);
        Check.due("count(15) behind undo()", x.count(15), 0);
        Check.write(x, segments(20));
        Check.due("clear()", x.clear(), 60);
        ColdPanes y = Check.still();
        y.heat(0, 101);
        Check.write(y, "h1;h1;h1");
        Check.due("run() that ends at a crack", y.run(), 1);
        Check.due("count(15)", y.count(15), 0);
    }

    private static ColdPanes emptiedByRun() {
        ColdPanes x = Refused.lively();
        Check.due("run()", x.run(), 2);
        return x;
    }
}
