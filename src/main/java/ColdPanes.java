import java.util.Arrays;

/**
 * Panes cooled by their edges with stress kept below a crack: ../shared/DOC.md says what each call
 * does. Every row is made with the object and used again, so that no call makes anything.
 */
public final class ColdPanes {
    public static final int INVALID_ARGUMENT = -1;
    public static final int NOT_POSSIBLE = -2;
    public static final int LIMIT_REACHED = -3;
    public static final int NOT_FOUND = -4;
    public static final int LEAD = 0, RIM = 1;

    private static final int SIZE = 6;
    private static final int CELLS = 36;
    private static final int JOINTS_A_ROW = 5;
    private static final int JOINTS_ACROSS = 30;
    private static final int JOINTS = 60;
    private static final int SIDES = 4;
    private static final int NONE = -1;

    private static final int MOST_HEAT = 1000;
    private static final int MOST_RATE = 100;
    private static final int MOST_MINUTES = 99;
    private static final int MOST_STRENGTH = 500;
    private static final int MOST_STRESS = 500;
    private static final int MOST_FLAME = 200;
    private static final int MOST_SETTING = 20;

    private static final int FIRST_HEAT = 600;
    private static final int FIRST_RATE = 10;
    private static final int FIRST_LEAD = 10;
    private static final int FIRST_RIM = 8;
    private static final int FIRST_STRENGTH = 100;
    private static final int MENDED_STRENGTH = FIRST_STRENGTH / 2;

    private static final int MOST_STATES = 4;
    private static final int MOST_CHARACTERS = 60;
    private static final int FIRST_CHARACTER = 33;
    private static final int LAST_CHARACTER = 126;
    // The shortest segment with its ";" has three characters ("h1;"), and the last one needs no ";".
    private static final int MOST_SEGMENTS = (MOST_CHARACTERS + 1) / 3;
    private static final int HOLD = -1;

    private final Pane now = new Pane();
    private final Pane trial = new Pane();
    private final Pane snapshot = new Pane();
    private boolean hasSnapshot = false;
    private final History history = new History();
    private final Pad pad = new Pad();
    private final Pieces parts = new Pieces();
    private final Forecast forecast = new Forecast();

    public ColdPanes() {
    }

    // ---- the pane, the furnace

    public int begin(int heat) {
        if (isOutside(heat, 0, MOST_HEAT)) {
            return INVALID_ARGUMENT;
        }
        history.record(now);
        now.renew(heat);
        return now.sumOfHeats();
    }

    public int aim(int heat, int rate) {
        if (isOutside(heat, 0, MOST_HEAT) || isOutside(rate, 1, MOST_RATE)) {
            return INVALID_ARGUMENT;
        }
        history.record(now);
        int before = now.aim;
        now.aim = heat;
        now.rate = rate;
        return before;
    }

    public int pass(int minutes) {
        if (isOutside(minutes, 1, MOST_MINUTES)) {
            return INVALID_ARGUMENT;
        }
        history.record(now);
        return now.passMinutes(minutes);
    }

    public int scratch(int joint, int strength) {
        if (!Grid.isJoint(joint) || isOutside(strength, 1, MOST_STRENGTH)) {
            return INVALID_ARGUMENT;
        }
        if (!now.isWhole(joint)) {
            return NOT_POSSIBLE;
        }
        history.record(now);
        int before = now.strengthOf(joint);
        now.strengthen(joint, strength);
        return before;
    }

    public int mend(int joint) {
        if (!Grid.isJoint(joint)) {
            return INVALID_ARGUMENT;
        }
        if (now.isWhole(joint)) {
            return NOT_POSSIBLE;
        }
        history.record(now);
        now.makeWhole(joint);
        now.strengthen(joint, MENDED_STRENGTH);
        return now.crackedJoints();
    }

    public int heat(int cell, int by) {
        if (!Grid.isCell(cell) || isOutside(by, -MOST_FLAME, MOST_FLAME)) {
            return INVALID_ARGUMENT;
        }
        history.record(now);
        return now.holdFlame(cell, by);
    }

    public int set(int what, int value) {
        if (isOutside(what, LEAD, RIM) || isOutside(value, 0, MOST_SETTING)) {
            return INVALID_ARGUMENT;
        }
        history.record(now);
        int before = what == LEAD ? now.lead : now.rim;
        if (what == LEAD) {
            now.lead = value;
        } else {
            now.rim = value;
        }
        return before;
    }

    // ---- texts

    public int append(int code) {
        if (isOutside(code, FIRST_CHARACTER, LAST_CHARACTER)) {
            return INVALID_ARGUMENT;
        }
        return pad.take((char) code) ? pad.length : LIMIT_REACHED;
    }

    public int clear() {
        int before = pad.length;
        pad.length = 0;
        return before;
    }

    public int fault() {
        return pad.findFault();
    }

    public int run() {
        if (pad.findFault() != NOT_FOUND) {
            return NOT_POSSIBLE;
        }
        history.record(now);
        int segments = 0;
        int cracks = 0;
        while (segments < pad.segments && cracks == 0) {
            if (pad.aimOf(segments) != HOLD) {
                now.aim = pad.aimOf(segments);
                now.rate = pad.rateOf(segments);
            }
            cracks = now.passMinutes(pad.minutesOf(segments));
            segments++;
        }
        pad.length = 0;
        return segments;
    }

    // ---- looks; nothing is changed

    public int cell(int cell, int what) {
        if (!Grid.isCell(cell)) {
            return INVALID_ARGUMENT;
        }
        switch (what) {
            case 0:
                return now.heatAt(cell);
            case 1:
                parts.tellByGoing(now);
                return parts.nameOf(cell);
            case 2:
                return now.wholeJointsOf(cell);
            case 3:
                return Grid.rimSides(cell);
            case 4:
                return now.greatestStressOf(cell);
            default:
                return INVALID_ARGUMENT;
        }
    }

    public int joint(int joint, int what) {
        if (!Grid.isJoint(joint)) {
            return INVALID_ARGUMENT;
        }
        boolean whole = now.isWhole(joint);
        switch (what) {
            case 0:
                return Grid.firstCell(joint);
            case 1:
                return Grid.secondCell(joint);
            case 2:
                return whole ? 1 : 0;
            case 3:
                return now.strengthOf(joint);
            case 4:
                return now.stressOf(joint);
            case 5:
                return whole ? NOT_FOUND : now.crackedMinuteOf(joint);
            case 6:
                return now.wholeJointsBeside(joint);
            default:
                return INVALID_ARGUMENT;
        }
    }

    public int strained(int place) {
        return place < 0 ? INVALID_ARGUMENT : now.strainedAt(place);
    }

    public int pieces(int way) {
        switch (way) {
            case 0:
                return parts.tellByGoing(now);
            case 1:
                return parts.tellByJoining(now);
            default:
                return INVALID_ARGUMENT;
        }
    }

    public int count(int what) {
        switch (what) {
            case 0:
                return now.furnace;
            case 1:
                return now.aim;
            case 2:
                return now.rate;
            case 3:
                return now.minutes;
            case 4:
                return now.sumOfHeats();
            case 5:
                return now.loss;
            case 6:
                return now.crackedJoints();
            case 7:
                return now.greatestHeat();
            case 8:
                return now.leastHeat();
            case 9:
                return now.greatestStress();
            case 10:
                return now.leastMargin();
            case 11:
                parts.tellByGoing(now);
                return parts.greatestSize();
            case 12:
                return now.lead;
            case 13:
                return now.rim;
            case 14:
                return now.flames;
            case 15:
                return pad.length;
            case 16:
                return history.size;
            default:
                return INVALID_ARGUMENT;
        }
    }

    public double mean(int cell) {
        if (!Grid.isCell(cell)) {
            return -1.0;
        }
        parts.tellByGoing(now);
        return parts.meanHeat(now, parts.nameOf(cell));
    }

    // ---- what would be; nothing is changed

    public int ifPassed(int minutes, int what) {
        if (isOutside(minutes, 1, MOST_MINUTES) || isOutside(what, 0, 3)) {
            return INVALID_ARGUMENT;
        }
        trial.copyFrom(now);
        forecast.look(trial, minutes);
        switch (what) {
            case 0:
                return forecast.cracks;
            case 1:
                return forecast.firstCrack;
            case 2:
                return forecast.greatestStress;
            default:
                return trial.loss;
        }
    }

    public int fastest(int heat, int minutes) {
        if (isOutside(heat, 0, MOST_HEAT) || isOutside(minutes, 1, MOST_MINUTES)) {
            return INVALID_ARGUMENT;
        }
        // A greater rate may do no harm where a lesser one does, so that each has to be tried.
        for (int rate = MOST_RATE; rate >= 1; rate--) {
            trial.copyFrom(now);
            trial.aim = heat;
            trial.rate = rate;
            if (trial.staysWhole(minutes)) {
                return rate;
            }
        }
        return NOT_FOUND;
    }

    public int evenIn(int stress) {
        if (isOutside(stress, 0, MOST_STRESS)) {
            return INVALID_ARGUMENT;
        }
        trial.copyFrom(now);
        for (int minutes = 0; minutes <= MOST_MINUTES; minutes++) {
            // NOT_FOUND, of a pane without whole joints, is below every stress.
            if (trial.greatestStress() <= stress) {
                return minutes;
            }
            trial.passMinutes(1);
        }
        return NOT_FOUND;
    }

    // ---- history, snapshot

    public int undo() {
        return history.takeBack(now) ? history.size : NOT_POSSIBLE;
    }

    public int save() {
        snapshot.copyFrom(now);
        hasSnapshot = true;
        return now.minutes;
    }

    public int restore() {
        if (!hasSnapshot) {
            return NOT_POSSIBLE;
        }
        history.record(now);
        now.copyFrom(snapshot);
        return now.minutes;
    }

    private static boolean isOutside(int value, int least, int most) {
        return value < least || value > most;
    }

    /** Where cells and joints lie. */
    private static final class Grid {
        static boolean isCell(int cell) {
            return cell >= 0 && cell < CELLS;
        }

        static boolean isJoint(int joint) {
            return joint >= 0 && joint < JOINTS;
        }

        static int firstCell(int joint) {
            if (joint >= JOINTS_ACROSS) {
                return joint - JOINTS_ACROSS;
            }
            return SIZE * (joint / JOINTS_A_ROW) + joint % JOINTS_A_ROW;
        }

        static int secondCell(int joint) {
            if (joint >= JOINTS_ACROSS) {
                return joint - JOINTS_ACROSS + SIZE;
            }
            return SIZE * (joint / JOINTS_A_ROW) + joint % JOINTS_A_ROW + 1;
        }

        static int otherCell(int joint, int cell) {
            return firstCell(joint) == cell ? secondCell(joint) : firstCell(joint);
        }

        /** The joint at the left, the right, the upper or the lower side, NONE at the rim. */
        static int jointAt(int cell, int side) {
            int row = cell / SIZE;
            int column = cell % SIZE;
            switch (side) {
                case 0:
                    return column > 0 ? JOINTS_A_ROW * row + column - 1 : NONE;
                case 1:
                    return column < SIZE - 1 ? JOINTS_A_ROW * row + column : NONE;
                case 2:
                    return row > 0 ? JOINTS_ACROSS + cell - SIZE : NONE;
                default:
                    return row < SIZE - 1 ? JOINTS_ACROSS + cell : NONE;
            }
        }

        static int rimSides(int cell) {
            int row = cell / SIZE;
            int column = cell % SIZE;
            int above = row == 0 || row == SIZE - 1 ? 1 : 0;
            int beside = column == 0 || column == SIZE - 1 ? 1 : 0;
            return above + beside;
        }

        static boolean touch(int joint, int other) {
            return joint != other && (isEnd(firstCell(joint), other) || isEnd(secondCell(joint), other));
        }

        private static boolean isEnd(int cell, int joint) {
            return firstCell(joint) == cell || secondCell(joint) == cell;
        }
    }

    /** Everything that a change records: the pane, the furnace, the settings and the sums. */
    private static final class Pane {
        private final int[] heats = new int[CELLS];
        private final int[] gains = new int[CELLS];
        private final int[] strengths = new int[JOINTS];
        // 0 stands for a whole joint, as minutes are counted from 1 on.
        private final int[] crackedIn = new int[JOINTS];
        private int furnace;
        private int aim;
        private int rate = FIRST_RATE;
        private int lead = FIRST_LEAD;
        private int rim = FIRST_RIM;
        private int minutes;
        private int loss;
        private int flames;

        Pane() {
            renew(FIRST_HEAT);
        }

        void renew(int heat) {
            Arrays.fill(heats, heat);
            Arrays.fill(strengths, FIRST_STRENGTH);
            Arrays.fill(crackedIn, 0);
            furnace = heat;
            aim = heat;
            minutes = 0;
            loss = 0;
            flames = 0;
        }

        void copyFrom(Pane other) {
            System.arraycopy(other.heats, 0, heats, 0, CELLS);
            System.arraycopy(other.strengths, 0, strengths, 0, JOINTS);
            System.arraycopy(other.crackedIn, 0, crackedIn, 0, JOINTS);
            furnace = other.furnace;
            aim = other.aim;
            rate = other.rate;
            lead = other.lead;
            rim = other.rim;
            minutes = other.minutes;
            loss = other.loss;
            flames = other.flames;
        }

        /** Tells how many joints cracked. */
        int passMinutes(int number) {
            int cracks = 0;
            for (int minute = 0; minute < number; minute++) {
                letHeatFlow();
                if (crackWorst()) {
                    cracks++;
                }
            }
            return cracks;
        }

        boolean staysWhole(int number) {
            for (int minute = 0; minute < number; minute++) {
                letHeatFlow();
                if (crackWorst()) {
                    return false;
                }
            }
            return true;
        }

        void letHeatFlow() {
            minutes++;
            moveFurnace();
            // All flows go by the heats ahead of the minute, so the heats stay until the last is known.
            Arrays.fill(gains, 0);
            flowOverJoints();
            flowAtRim();
            for (int cell = 0; cell < CELLS; cell++) {
                heats[cell] += gains[cell];
            }
        }

        private void moveFurnace() {
            if (furnace < aim) {
                furnace = Math.min(aim, furnace + rate);
            } else {
                furnace = Math.max(aim, furnace - rate);
            }
        }

        private void flowOverJoints() {
            for (int joint = 0; joint < JOINTS; joint++) {
                if (isWhole(joint)) {
                    int first = Grid.firstCell(joint);
                    int second = Grid.secondCell(joint);
                    int flow = (heatAt(first) - heatAt(second)) * lead / 100;
                    gain(first, -flow);
                    gain(second, flow);
                }
            }
        }

        private void flowAtRim() {
            for (int cell = 0; cell < CELLS; cell++) {
                // Each side is rounded by itself.
                int flow = (heats[cell] - furnace) * rim / 100 * Grid.rimSides(cell);
                gains[cell] -= flow;
                loss += flow;
            }
        }

        private void gain(int cell, int by) {
            if (Grid.isCell(cell)) {
                gains[cell] += by;
            }
        }

        /** Tells whether a joint cracked. */
        boolean crackWorst() {
            int worst = mostStrained();
            if (!isWhole(worst) || marginOf(worst) >= 0) {
                return false;
            }
            crackedIn[worst] = minutes;
            weakenBeside(worst);
            return true;
        }

        private void weakenBeside(int cracked) {
            for (int joint = 0; joint < JOINTS; joint++) {
                if (isWhole(joint) && Grid.touch(joint, cracked)) {
                    strengths[joint] = Math.max(1, strengths[joint] * 9 / 10);
                }
            }
        }

        /** Tells the heat of the cell then. */
        int holdFlame(int cell, int by) {
            int before = heatAt(cell);
            int then = Math.max(0, before + by);
            if (Grid.isCell(cell)) {
                heats[cell] = then;
            }
            flames += then - before;
            return then;
        }

        void makeWhole(int joint) {
            if (Grid.isJoint(joint)) {
                crackedIn[joint] = 0;
            }
        }

        void strengthen(int joint, int strength) {
            if (Grid.isJoint(joint)) {
                strengths[joint] = strength;
            }
        }

        // This and isWhole test the index themselves, as LANGUAGE.md bounds how deep calls go.
        int heatAt(int cell) {
            return cell >= 0 && cell < CELLS ? heats[cell] : 0;
        }

        boolean isWhole(int joint) {
            return joint >= 0 && joint < JOINTS && crackedIn[joint] == 0;
        }

        int crackedMinuteOf(int joint) {
            return Grid.isJoint(joint) ? crackedIn[joint] : 0;
        }

        int strengthOf(int joint) {
            return Grid.isJoint(joint) ? strengths[joint] : 0;
        }

        int stressOf(int joint) {
            return Math.abs(heatAt(Grid.firstCell(joint)) - heatAt(Grid.secondCell(joint)));
        }

        int marginOf(int joint) {
            return strengthOf(joint) - stressOf(joint);
        }

        int wholeJointsOf(int cell) {
            int number = 0;
            for (int side = 0; side < SIDES; side++) {
                if (isWhole(Grid.jointAt(cell, side))) {
                    number++;
                }
            }
            return number;
        }

        int wholeJointsBeside(int joint) {
            int number = 0;
            for (int other = 0; other < JOINTS; other++) {
                if (isWhole(other) && Grid.touch(other, joint)) {
                    number++;
                }
            }
            return number;
        }

        int greatestStressOf(int cell) {
            int greatest = NOT_FOUND;
            for (int side = 0; side < SIDES; side++) {
                int joint = Grid.jointAt(cell, side);
                if (isWhole(joint)) {
                    greatest = Math.max(greatest, stressOf(joint));
                }
            }
            return greatest;
        }

        int greatestStress() {
            int greatest = NOT_FOUND;
            for (int joint = 0; joint < JOINTS; joint++) {
                if (isWhole(joint)) {
                    greatest = Math.max(greatest, stressOf(joint));
                }
            }
            return greatest;
        }

        int leastMargin() {
            int joint = mostStrained();
            return joint == NONE ? NOT_FOUND : marginOf(joint);
        }

        private int mostStrained() {
            int most = NONE;
            int least = 0;
            for (int joint = 0; joint < JOINTS; joint++) {
                if (isWhole(joint)) {
                    int margin = marginOf(joint);
                    if (most == NONE || margin < least) {
                        most = joint;
                        least = margin;
                    }
                }
            }
            return most;
        }

        int strainedAt(int place) {
            for (int joint = 0; joint < JOINTS; joint++) {
                if (isWhole(joint) && placeOf(joint) == place) {
                    return joint;
                }
            }
            return NOT_FOUND;
        }

        private int placeOf(int joint) {
            int margin = marginOf(joint);
            int ahead = 0;
            for (int other = 0; other < JOINTS; other++) {
                if (isWhole(other)) {
                    int otherMargin = marginOf(other);
                    if (otherMargin < margin || otherMargin == margin && other < joint) {
                        ahead++;
                    }
                }
            }
            return ahead;
        }

        int crackedJoints() {
            int cracked = 0;
            for (int joint = 0; joint < JOINTS; joint++) {
                if (!isWhole(joint)) {
                    cracked++;
                }
            }
            return cracked;
        }

        int sumOfHeats() {
            int sum = 0;
            for (int cell = 0; cell < CELLS; cell++) {
                sum += heats[cell];
            }
            return sum;
        }

        int greatestHeat() {
            int greatest = heats[0];
            for (int cell = 1; cell < CELLS; cell++) {
                greatest = Math.max(greatest, heats[cell]);
            }
            return greatest;
        }

        int leastHeat() {
            int least = heats[0];
            for (int cell = 1; cell < CELLS; cell++) {
                least = Math.min(least, heats[cell]);
            }
            return least;
        }
    }

    /** The states ahead of the latest changes, the oldest one first. */
    private static final class History {
        private final Pane[] states = new Pane[MOST_STATES];
        private int size = 0;

        History() {
            for (int place = 0; place < MOST_STATES; place++) {
                states[place] = new Pane();
            }
        }

        void record(Pane pane) {
            if (size >= MOST_STATES) {
                dropOldest();
            }
            Pane state = stateAt(size);
            if (state != null) {
                state.copyFrom(pane);
                size++;
            }
        }

        /** Tells whether there was a state to go back to. */
        boolean takeBack(Pane pane) {
            Pane state = stateAt(size - 1);
            if (state == null) {
                return false;
            }
            pane.copyFrom(state);
            size--;
            return true;
        }

        private Pane stateAt(int place) {
            return place >= 0 && place < MOST_STATES ? states[place] : null;
        }

        // The dropped state goes to the end, where its rows are used again.
        private void dropOldest() {
            Pane oldest = states[0];
            for (int place = 1; place < MOST_STATES; place++) {
                states[place - 1] = states[place];
            }
            states[MOST_STATES - 1] = oldest;
            size = MOST_STATES - 1;
        }
    }

    /** Which cells are of the same piece, as they were told last. */
    private static final class Pieces {
        private final int[] names = new int[CELLS];
        private final int[] reached = new int[CELLS];
        private int reachedCells = 0;

        /** Tells how many pieces there are. */
        int tellByGoing(Pane pane) {
            Arrays.fill(names, NONE);
            int number = 0;
            // Cells are begun with in their order, so the first one of a piece is its name.
            for (int cell = 0; cell < CELLS; cell++) {
                if (names[cell] == NONE) {
                    spreadFrom(pane, cell);
                    number++;
                }
            }
            return number;
        }

        private void spreadFrom(Pane pane, int start) {
            reachedCells = 0;
            reach(start, start);
            for (int place = 0; place < reachedCells && place < CELLS; place++) {
                int cell = reached[place];
                for (int side = 0; side < SIDES; side++) {
                    int joint = Grid.jointAt(cell, side);
                    if (pane.isWhole(joint)) {
                        reach(Grid.otherCell(joint, cell), start);
                    }
                }
            }
        }

        private void reach(int cell, int name) {
            if (nameOf(cell) == NONE && Grid.isCell(cell) && Grid.isCell(reachedCells)) {
                names[cell] = name;
                reached[reachedCells] = cell;
                reachedCells++;
            }
        }

        /** Tells how many pieces there are. */
        int tellByJoining(Pane pane) {
            for (int cell = 0; cell < CELLS; cell++) {
                names[cell] = cell;
            }
            int number = CELLS;
            for (int joint = 0; joint < JOINTS; joint++) {
                if (pane.isWhole(joint) && join(nameOf(Grid.firstCell(joint)), nameOf(Grid.secondCell(joint)))) {
                    number--;
                }
            }
            return number;
        }

        /** Tells whether they were two pieces. */
        private boolean join(int name, int other) {
            int lesser = Math.min(name, other);
            int greater = Math.max(name, other);
            for (int cell = 0; cell < CELLS; cell++) {
                if (names[cell] == greater) {
                    names[cell] = lesser;
                }
            }
            return lesser != greater;
        }

        int nameOf(int cell) {
            return Grid.isCell(cell) ? names[cell] : NONE;
        }

        int greatestSize() {
            int greatest = 0;
            for (int name = 0; name < CELLS; name++) {
                greatest = Math.max(greatest, sizeOf(name));
            }
            return greatest;
        }

        private int sizeOf(int name) {
            int size = 0;
            for (int cell = 0; cell < CELLS; cell++) {
                if (names[cell] == name) {
                    size++;
                }
            }
            return size;
        }

        double meanHeat(Pane pane, int name) {
            int size = sizeOf(name);
            if (size == 0) {
                return -1.0;
            }
            double sum = 0.0;
            for (int cell = 0; cell < CELLS; cell++) {
                if (names[cell] == name) {
                    sum += pane.heatAt(cell);
                }
            }
            return sum / size;
        }
    }

    /** What minutes brought to the pane that was looked at last. */
    private static final class Forecast {
        private int cracks;
        private int firstCrack;
        private int greatestStress;

        void look(Pane pane, int minutes) {
            cracks = 0;
            firstCrack = NOT_FOUND;
            greatestStress = 0;
            for (int minute = 1; minute <= minutes; minute++) {
                pane.letHeatFlow();
                // The stress of a joint that cracks now counts too, so it is looked at between the two steps.
                greatestStress = Math.max(greatestStress, pane.greatestStress());
                if (pane.crackWorst()) {
                    cracks++;
                    firstCrack = firstCrack == NOT_FOUND ? minute : firstCrack;
                }
            }
        }
    }

    /** A text that grows, and the segments of the program that it is. */
    private static final class Pad {
        private static final int SEGMENT = 0, AIM = 1, RATE = 2, MINUTES = 3;

        private final char[] characters = new char[MOST_CHARACTERS];
        private int length = 0;
        private final int[] aims = new int[MOST_SEGMENTS];
        private final int[] rates = new int[MOST_SEGMENTS];
        private final int[] minutes = new int[MOST_SEGMENTS];
        private int segments = 0;
        // What the reader stands in, and the number as far as it is read, NONE ahead of its first digit.
        private int part = SEGMENT;
        private int number = NONE;

        /** Tells whether there was room. */
        boolean take(char character) {
            if (length < 0 || length >= MOST_CHARACTERS) {
                return false;
            }
            characters[length] = character;
            length++;
            return true;
        }

        int findFault() {
            segments = 0;
            part = SEGMENT;
            number = NONE;
            for (int at = 0; at < length && at < MOST_CHARACTERS; at++) {
                if (!reads(characters[at])) {
                    return at;
                }
            }
            if (part != MINUTES || number == NONE) {
                return length;
            }
            endNumber();
            return NOT_FOUND;
        }

        /** Tells whether a program may go on with this character. */
        private boolean reads(char character) {
            if (character >= '0' && character <= '9') {
                return readsDigit(character - '0');
            }
            if (part == SEGMENT) {
                return readsHold(character);
            }
            if (number == NONE || character != endOfPart()) {
                return false;
            }
            endNumber();
            return true;
        }

        private boolean readsHold(char character) {
            if (character != 'h') {
                return false;
            }
            keepIn(aims, HOLD);
            part = MINUTES;
            return true;
        }

        private boolean readsDigit(int digit) {
            if (part == SEGMENT) {
                part = AIM;
            }
            if (number == 0) {
                return false;
            }
            number = number == NONE ? digit : 10 * number + digit;
            return number >= leastOfPart() && number <= mostOfPart();
        }

        private void endNumber() {
            if (part == AIM) {
                keepIn(aims, number);
                part = RATE;
            } else if (part == RATE) {
                keepIn(rates, number);
                part = MINUTES;
            } else {
                keepIn(minutes, number);
                segments++;
                part = SEGMENT;
            }
            number = NONE;
        }

        private void keepIn(int[] row, int value) {
            if (segments >= 0 && segments < row.length) {
                row[segments] = value;
            }
        }

        private char endOfPart() {
            if (part == AIM) {
                return '/';
            }
            return part == RATE ? 'x' : ';';
        }

        private int leastOfPart() {
            return part == AIM ? 0 : 1;
        }

        private int mostOfPart() {
            if (part == AIM) {
                return MOST_HEAT;
            }
            return part == RATE ? MOST_RATE : MOST_MINUTES;
        }

        int aimOf(int segment) {
            return isSegment(segment) ? aims[segment] : HOLD;
        }

        int rateOf(int segment) {
            return isSegment(segment) ? rates[segment] : 1;
        }

        int minutesOf(int segment) {
            return isSegment(segment) ? minutes[segment] : 0;
        }

        private static boolean isSegment(int segment) {
            return segment >= 0 && segment < MOST_SEGMENTS;
        }
    }
}
