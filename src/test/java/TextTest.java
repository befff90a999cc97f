/** Promises 9 to 12. */
public final class TextTest {
    private static final int BAD = ColdPanes.INVALID_ARGUMENT;
    private static final int IMPOSSIBLE = ColdPanes.NOT_POSSIBLE;
    private static final int FULL = ColdPanes.LIMIT_REACHED;
    private static final int NOTHING = ColdPanes.NOT_FOUND;

    public static void main(String[] arguments) {
        append();
        clear();
        faultlessTexts();
        wrongCharacters();
        textsThatAreNotComplete();
        runOfSegments();
        runEndsBehindACrack();
        runOfAFault();
        runOfManySegments();
        Check.end();
    }

    private static void append() {
        ColdPanes x = new ColdPanes();
        Check.due("append(32)", x.append(32), BAD);
        Check.due("append(127)", x.append(127), BAD);
        Check.due("append(-1)", x.append(-1), BAD);
        Check.due("append(65536 + 48)", x.append(65536 + 48), BAD);
        Check.due("append(33)", x.append(33), 1);
        Check.due("append(126)", x.append(126), 2);
        for (int length = 3; length <= 60; length++) {
            Check.due("append(48)", x.append(48), length);
        }
        Check.due("append(48) to a full pad", x.append(48), FULL);
        Check.due("append(32) to a full pad", x.append(32), BAD);
        Check.due("length", x.count(15), 60);
        Check.due("states: the pad is no change", x.count(16), 0);
    }

    private static void clear() {
        ColdPanes x = new ColdPanes();
        Check.due("clear()", x.clear(), 0);
        Check.write(x, "h9;x");
        Check.due("clear()", x.clear(), 4);
        Check.due("length", x.count(15), 0);
        Check.due("fault()", x.fault(), 0);
        Check.due("states: the pad is no change", x.count(16), 0);
    }

    private static void faultlessTexts() {
        dueFault("h1", NOTHING);
        dueFault("h99", NOTHING);
        dueFault("0/1x1", NOTHING);
        dueFault("1000/100x99", NOTHING);
        dueFault("999/99x10", NOTHING);
        dueFault("10/10x9;h1;5/5x5", NOTHING);
        dueFault("h1;h2;h3;h4;h5;h6;h7;h8;h9;h1;h2;h3;h4;h5;h6;h7;h8;h9;h1;h2", NOTHING);
    }

    private static void wrongCharacters() {
        dueFault("x", 0);
        dueFault(";", 0);
        dueFault("/1x1", 0);
        dueFault("H1", 0);
        dueFault("hh", 1);
        dueFault("h0", 1);
        dueFault("h;", 1);
        dueFault("h1h", 2);
        dueFault("h100", 3);
        dueFault("h991", 3);
        dueFault("00", 1);
        dueFault("01/1x1", 1);
        dueFault("1001", 3);
        dueFault("1010", 3);
        dueFault("2000", 3);
        dueFault("10000", 4);
        dueFault("1x", 1);
        dueFault("1;", 1);
        dueFault("1//", 2);
        dueFault("1/x", 2);
        dueFault("1/0", 2);
        dueFault("1/01x1", 2);
        dueFault("1/101", 4);
        dueFault("1/110", 4);
        dueFault("1/200", 4);
        dueFault("1/1000", 5);
        dueFault("1/1/", 3);
        dueFault("1/1;", 3);
        dueFault("1/1xx", 4);
        dueFault("1/1x0", 4);
        dueFault("1/1x;", 4);
        dueFault("1/1x100", 6);
        dueFault("1/1x1x", 5);
        dueFault("1/1x1/", 5);
        dueFault("h1;;", 3);
        dueFault("h1;1/1x1;?", 9);
        dueFault("h1/h", 2);
        dueFault("~", 0);
        dueFault("0/1:", 3);
    }

    private static void textsThatAreNotComplete() {
        for (String text : new String[] {"", "h", "0", "1000", "5/", "5/1", "5/100", "5/5x", "h1;", "5/5x5;h", "h1;12"}) {
            dueFault(text, text.length());
        }
    }

    private static void dueFault(String text, int due) {
        ColdPanes x = new ColdPanes();
        Check.write(x, text);
        Check.due("fault() of \"" + text + "\"", x.fault(), due);
        Check.due("fault() of \"" + text + "\" once more", x.fault(), due);
        Check.due("length behind fault()", x.count(15), text.length());
        if (due != NOTHING) {
            Check.due("run() of \"" + text + "\"", x.run(), IMPOSSIBLE);
            Check.due("length behind an error", x.count(15), text.length());
            Check.due("states behind an error", x.count(16), 0);
        }
    }

    private static void runOfSegments() {
        ColdPanes x = Check.still();
        Check.write(x, "500/20x3;h1;700/100x1;h2");
        Check.due("run()", x.run(), 4);
        Check.due("furnace", x.count(0), 700);
        Check.due("aim", x.count(1), 700);
        Check.due("rate", x.count(2), 100);
        Check.due("minutes", x.count(3), 7);
        Check.due("length", x.count(15), 0);
        Check.due("states: one change", x.count(16), 3);
        Check.due("undo()", x.undo(), 2);
        Check.due("aim undone", x.count(1), 600);
        Check.due("minutes undone", x.count(3), 0);
        Check.due("the pad stays empty", x.count(15), 0);
        ColdPanes y = Check.still();
        y.aim(300, 50);
        Check.write(y, "h3;500/7x2");
        Check.due("run()", y.run(), 2);
        Check.due("a hold goes on to the aim", y.count(0), 464);
        ColdPanes z = Check.still();
        Check.write(z, "0/1x1;h2");
        Check.due("run()", z.run(), 2);
        Check.due("the aim 0", z.count(1), 0);
        Check.due("the rate 1", z.count(2), 1);
        Check.due("furnace", z.count(0), 597);
    }

    private static void runEndsBehindACrack() {
        ColdPanes x = Check.still();
        x.heat(14, 101);
        Check.write(x, "500/10x9;400/30x2");
        Check.due("run()", x.run(), 1);
        Check.due("minutes: run to its end", x.count(3), 9);
        Check.due("cracked", x.count(6), 4);
        Check.due("aim", x.count(1), 500);
        Check.due("rate", x.count(2), 10);
        Check.due("length", x.count(15), 0);
        Check.write(x, "h1;400/30x2");
        Check.due("run() without a crack", x.run(), 2);
    }

    private static void runOfAFault() {
        ColdPanes x = new ColdPanes();
        Check.due("run() of an empty pad", x.run(), IMPOSSIBLE);
        Check.write(x, "h1;");
        Check.due("run()", x.run(), IMPOSSIBLE);
        Check.due("minutes", x.count(3), 0);
        Check.due("append(50)", x.append('h'), 4);
        Check.due("append(50)", x.append('2'), 5);
        Check.due("run()", x.run(), 2);
        Check.due("minutes", x.count(3), 3);
    }

    private static void runOfManySegments() {
        ColdPanes x = new ColdPanes();
        Check.write(x, "h1;h2;h3;h4;h5;h6;h7;h8;h9;h1;h2;h3;h4;h5;h6;h7;h8;h9;h1;h29");
        Check.due("length", x.count(15), 60);
        Check.due("run()", x.run(), 20);
        Check.due("minutes", x.count(3), 45 + 45 + 1 + 29);
    }
}
