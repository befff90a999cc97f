import java.util.Random;

/** Long runs of calls, the same ones each time, whose answers are compared with those of the model. */
public final class ModelTest {
    // An object is used for so many calls; those that look at everything come behind the others.
    private static final int CALLS = 512;
    private static final int LAST_LOOKS = 200;
    private static final String SIGNS = "0123456789/xh;?";

    private final int seed;
    private final Random random;
    private final ColdPanes panes = new ColdPanes();
    private final Model model = new Model();
    private final String name;

    private ModelTest(int seed) {
        this.seed = seed;
        random = new Random(seed);
        name = "run " + seed + ": ";
    }

    public static void main(String[] arguments) {
        int runs = arguments.length > 0 ? Integer.parseInt(arguments[0]) : 96;
        for (int seed = 0; seed < runs; seed++) {
            new ModelTest(seed).calls();
        }
        Check.end();
    }

    private void calls() {
        int left = seed % 2 == 0 ? CALLS : CALLS - LAST_LOOKS;
        while (left > 0) {
            int chance = random.nextInt(100);
            if (chance < 45) {
                change();
                left--;
            } else if (chance < 50 && left >= 3) {
                left -= text(left);
            } else if (chance < 52 && left >= 18) {
                flames();
                left -= 18;
            } else if (chance < 90) {
                look();
                left--;
            } else {
                lookAhead();
                left--;
            }
        }
        if (seed % 2 != 0) {
            lastLooks(seed / 2 % 4);
        }
    }

    /** A number of the range, now and then its edge or one beyond. */
    private int number(int least, int most) {
        switch (random.nextInt(16)) {
            case 0:
                return least;
            case 1:
                return most;
            case 2:
                return random.nextInt(4) == 0 ? least - 1 : least;
            case 3:
                return random.nextInt(4) == 0 ? most + 1 : most;
            case 4:
                return random.nextInt(20) == 0 ? random.nextInt() : least;
            default:
                return least + random.nextInt(most - least + 1);
        }
    }

    private void due(String call, int a, int b, long got, long due) {
        Check.due(name + call + "(" + a + ", " + b + ")", got, due);
    }

    private void change() {
        int heat = number(0, 1000);
        int cell = number(0, 35);
        int joint = number(0, 59);
        int minutes = random.nextInt(4) == 0 ? number(1, 99) : number(1, 12);
        switch (random.nextInt(18)) {
            case 0:
                due("begin", heat, 0, panes.begin(heat), model.begin(heat));
                break;
            case 1: case 2: case 3:
                int rate = number(1, 100);
                due("aim", heat, rate, panes.aim(heat, rate), model.aim(heat, rate));
                break;
            case 4: case 5: case 6: case 7:
                due("pass", minutes, 0, panes.pass(minutes), model.pass(minutes));
                break;
            case 8: case 9:
                int strength = random.nextBoolean() ? number(1, 30) : number(1, 500);
                due("scratch", joint, strength, panes.scratch(joint, strength), model.scratch(joint, strength));
                break;
            case 10: case 11:
                due("mend", joint, 0, panes.mend(joint), model.mend(joint));
                break;
            case 12: case 13:
                int by = number(-200, 200);
                due("heat", cell, by, panes.heat(cell, by), model.heat(cell, by));
                break;
            case 14:
                int what = number(0, 1);
                int value = number(0, 20);
                due("set", what, value, panes.set(what, value), model.set(what, value));
                break;
            case 15:
                due("undo", 0, 0, panes.undo(), model.undo());
                break;
            case 16:
                due("save", 0, 0, panes.save(), model.save());
                break;
            default:
                due("restore", 0, 0, panes.restore(), model.restore());
        }
    }

    /** Makes the pane uneven, so that many joints crack. */
    private void flames() {
        for (int place = 0; place < 18; place++) {
            int cell = 2 * place + place / 3 % 2;
            int by = 50 + random.nextInt(151);
            due("heat", cell, by, panes.heat(cell, by), model.heat(cell, by));
        }
    }

    /** Puts a program, or what is nearly one, on the pad; tells how many calls were made. */
    private int text(int most) {
        StringBuilder text = new StringBuilder();
        int segments = 1 + random.nextInt(6);
        for (int segment = 0; segment < segments; segment++) {
            text.append(segment == 0 ? "" : ";");
            if (random.nextInt(3) == 0) {
                text.append('h').append(number(1, 99));
            } else {
                text.append(number(0, 1000)).append('/').append(number(1, 100)).append('x').append(number(1, 20));
            }
        }
        if (random.nextInt(3) == 0) {
            char sign = SIGNS.charAt(random.nextInt(SIGNS.length()));
            text.setCharAt(random.nextInt(text.length()), sign);
        }
        int calls = 0;
        if (random.nextInt(8) != 0) {
            due("clear", 0, 0, panes.clear(), model.clear());
            calls++;
        }
        for (int at = 0; at < text.length() && calls + 2 < most; at++) {
            int code = random.nextInt(300) == 0 ? number(33, 126) : text.charAt(at);
            due("append", code, 0, panes.append(code), model.append(code));
            calls++;
            if (random.nextInt(8) == 0 && calls + 2 < most) {
                due("fault", 0, 0, panes.fault(), model.fault());
                calls++;
            }
        }
        due("fault", 0, 0, panes.fault(), model.fault());
        due("run", 0, 0, panes.run(), model.run());
        return calls + 2;
    }

    private void look() {
        int cell = number(0, 35);
        int joint = number(0, 59);
        switch (random.nextInt(6)) {
            case 0:
                int property = number(0, 4);
                due("cell", cell, property, panes.cell(cell, property), model.cell(cell, property));
                break;
            case 1:
                int what = number(0, 6);
                due("joint", joint, what, panes.joint(joint, what), model.joint(joint, what));
                break;
            case 2:
                due("strained", joint, 0, panes.strained(joint), model.strained(joint));
                break;
            case 3:
                int way = number(0, 1);
                due("pieces", way, 0, panes.pieces(way), model.pieces(way));
                break;
            case 4:
                int number = number(0, 16);
                due("count", number, 0, panes.count(number), model.count(number));
                break;
            default:
                Check.dueMean(name + "mean(" + cell + ")", panes.mean(cell), model.mean(cell));
        }
    }

    private void lookAhead() {
        int minutes = number(1, 99);
        switch (random.nextInt(8)) {
            case 0:
                int heat = number(0, 1000);
                due("fastest", heat, minutes, panes.fastest(heat, minutes), model.fastest(heat, minutes));
                break;
            case 1: case 2:
                int stress = random.nextBoolean() ? number(0, 500) : number(0, 40);
                due("evenIn", stress, 0, panes.evenIn(stress), model.evenIn(stress));
                break;
            default:
                int what = number(0, 3);
                due("ifPassed", minutes, what, panes.ifPassed(minutes, what), model.ifPassed(minutes, what));
        }
    }

    /** A part of all that is to be seen, so that four runs look at everything. */
    private void lastLooks(int part) {
        if (part == 0) {
            dueCountsAndCells();
        } else if (part == 1) {
            dueJoints(2, 4);
        } else if (part == 2) {
            dueJoints(5, 6);
            dueStrained();
        } else {
            dueJoints(0, 1);
        }
    }

    private void dueCountsAndCells() {
        for (int what = 0; what <= 16; what++) {
            due("count", what, 0, panes.count(what), model.count(what));
        }
        for (int cell = 0; cell < 36; cell++) {
            for (int what = 0; what <= 4; what++) {
                due("cell", cell, what, panes.cell(cell, what), model.cell(cell, what));
            }
        }
    }

    private void dueJoints(int first, int last) {
        for (int joint = 0; joint < 60; joint++) {
            for (int what = first; what <= last; what++) {
                due("joint", joint, what, panes.joint(joint, what), model.joint(joint, what));
            }
        }
    }

    private void dueStrained() {
        for (int place = 0; place < 60; place++) {
            due("strained", place, 0, panes.strained(place), model.strained(place));
        }
    }
}
