import java.util.ArrayDeque;
import java.util.ArrayList;
import java.util.Deque;
import java.util.List;
import java.util.TreeSet;
import java.util.regex.Matcher;
import java.util.regex.Pattern;

/**
 * The document told once more, with the Java library and without regard to speed or room, so that
 * ModelTest can compare answers. It shares no way of working with the class where that can be.
 */
final class Model {
    private static final int BAD = -1;
    private static final int IMPOSSIBLE = -2;
    private static final int FULL = -3;
    private static final int NOTHING = -4;
    private static final Pattern PROGRAM = Pattern.compile("SEG(;SEG)*".replace("SEG",
        "((0|[1-9][0-9]{0,2}|1000)/([1-9][0-9]?|100)x[1-9][0-9]?|h[1-9][0-9]?)"));

    private static final class Joint {
        final int number;
        final int first;
        final int second;
        boolean whole = true;
        int strength = 100;
        int minute = NOTHING;

        Joint(int number, int first, int second) {
            this.number = number;
            this.first = first;
            this.second = second;
        }

        boolean has(int cell) {
            return first == cell || second == cell;
        }

        boolean touches(Joint other) {
            return number != other.number && (has(other.first) || has(other.second));
        }
    }

    private static final class State {
        int[] heats = new int[36];
        List<Joint> joints = new ArrayList<>();
        int furnace = 600;
        int aim = 600;
        int rate = 10;
        int[] settings = {10, 8};
        int minutes = 0;
        int loss = 0;
        int flames = 0;

        State() {
            java.util.Arrays.fill(heats, 600);
            for (int cell = 0; cell < 36; cell++) {
                if (cell % 6 != 5) {
                    joints.add(new Joint(joints.size(), cell, cell + 1));
                }
            }
            for (int cell = 0; cell < 30; cell++) {
                joints.add(new Joint(joints.size(), cell, cell + 6));
            }
        }

        State copy() {
            State other = new State();
            other.heats = heats.clone();
            for (int number = 0; number < 60; number++) {
                other.joints.get(number).whole = joints.get(number).whole;
                other.joints.get(number).strength = joints.get(number).strength;
                other.joints.get(number).minute = joints.get(number).minute;
            }
            other.furnace = furnace;
            other.aim = aim;
            other.rate = rate;
            other.settings = settings.clone();
            other.minutes = minutes;
            other.loss = loss;
            other.flames = flames;
            return other;
        }

        int stress(Joint joint) {
            int difference = heats[joint.first] - heats[joint.second];
            return difference < 0 ? -difference : difference;
        }

        List<Joint> wholeOnes() {
            List<Joint> ones = new ArrayList<>();
            for (Joint joint : joints) {
                if (joint.whole) {
                    ones.add(joint);
                }
            }
            return ones;
        }

        int greatestStress(int whenNone) {
            int greatest = whenNone;
            for (Joint joint : wholeOnes()) {
                greatest = Math.max(greatest, stress(joint));
            }
            return greatest;
        }

        List<Joint> inOrder() {
            List<Joint> ones = wholeOnes();
            ones.sort((a, b) -> {
                int marginA = a.strength - stress(a);
                int marginB = b.strength - stress(b);
                return marginA != marginB ? Integer.compare(marginA, marginB) : Integer.compare(a.number, b.number);
            });
            return ones;
        }

        TreeSet<Integer> pieceOf(int cell) {
            TreeSet<Integer> piece = new TreeSet<>();
            piece.add(cell);
            int before = 0;
            while (piece.size() > before) {
                before = piece.size();
                for (Joint joint : wholeOnes()) {
                    if (piece.contains(joint.first) || piece.contains(joint.second)) {
                        piece.add(joint.first);
                        piece.add(joint.second);
                    }
                }
            }
            return piece;
        }

        void flow() {
            minutes++;
            for (int step = 0; step < rate; step++) {
                furnace += Integer.signum(aim - furnace);
            }
            int[] then = heats.clone();
            for (Joint joint : wholeOnes()) {
                int flow = towardsZero((long) (heats[joint.first] - heats[joint.second]) * settings[0]);
                then[joint.first] -= flow;
                then[joint.second] += flow;
            }
            for (int cell = 0; cell < 36; cell++) {
                for (int side = 0; side < sides(cell); side++) {
                    int flow = towardsZero((long) (heats[cell] - furnace) * settings[1]);
                    then[cell] -= flow;
                    loss += flow;
                }
            }
            heats = then;
        }

        private static int towardsZero(long hundredths) {
            return (int) (hundredths < 0 ? -((-hundredths) / 100) : hundredths / 100);
        }

        int crack() {
            List<Joint> order = inOrder();
            if (order.isEmpty() || stress(order.get(0)) <= order.get(0).strength) {
                return 0;
            }
            Joint cracked = order.get(0);
            cracked.whole = false;
            cracked.minute = minutes;
            for (Joint joint : wholeOnes()) {
                if (joint.touches(cracked)) {
                    joint.strength = Math.max(1, joint.strength * 9 / 10);
                }
            }
            return 1;
        }

        int pass(int number) {
            int cracks = 0;
            for (int minute = 0; minute < number; minute++) {
                flow();
                cracks += crack();
            }
            return cracks;
        }
    }

    private static int sides(int cell) {
        int sides = 0;
        sides += cell < 6 ? 1 : 0;
        sides += cell >= 30 ? 1 : 0;
        sides += cell % 6 == 0 ? 1 : 0;
        sides += cell % 6 == 5 ? 1 : 0;
        return sides;
    }

    private State now = new State();
    private State snapshot = null;
    private final Deque<State> history = new ArrayDeque<>();
    private String pad = "";

    private void change() {
        history.addLast(now.copy());
        if (history.size() == 5) {
            history.removeFirst();
        }
    }

    private static boolean in(int value, int least, int most) {
        return least <= value && value <= most;
    }

    int begin(int heat) {
        if (!in(heat, 0, 1000)) {
            return BAD;
        }
        change();
        State fresh = new State();
        java.util.Arrays.fill(fresh.heats, heat);
        fresh.furnace = heat;
        fresh.aim = heat;
        fresh.rate = now.rate;
        fresh.settings = now.settings.clone();
        now = fresh;
        return 36 * heat;
    }

    int aim(int heat, int rate) {
        if (!in(heat, 0, 1000) || !in(rate, 1, 100)) {
            return BAD;
        }
        change();
        int before = now.aim;
        now.aim = heat;
        now.rate = rate;
        return before;
    }

    int pass(int minutes) {
        if (!in(minutes, 1, 99)) {
            return BAD;
        }
        change();
        return now.pass(minutes);
    }

    int scratch(int joint, int strength) {
        if (!in(joint, 0, 59) || !in(strength, 1, 500)) {
            return BAD;
        }
        Joint one = now.joints.get(joint);
        if (!one.whole) {
            return IMPOSSIBLE;
        }
        change();
        int before = one.strength;
        one.strength = strength;
        return before;
    }

    int mend(int joint) {
        if (!in(joint, 0, 59)) {
            return BAD;
        }
        Joint one = now.joints.get(joint);
        if (one.whole) {
            return IMPOSSIBLE;
        }
        change();
        one.whole = true;
        one.strength = 50;
        one.minute = NOTHING;
        return 60 - now.wholeOnes().size();
    }

    int heat(int cell, int by) {
        if (!in(cell, 0, 35) || !in(by, -200, 200)) {
            return BAD;
        }
        change();
        int before = now.heats[cell];
        now.heats[cell] = before + by < 0 ? 0 : before + by;
        now.flames += now.heats[cell] - before;
        return now.heats[cell];
    }

    int set(int what, int value) {
        if (!in(what, 0, 1) || !in(value, 0, 20)) {
            return BAD;
        }
        change();
        int before = now.settings[what];
        now.settings[what] = value;
        return before;
    }

    int append(int code) {
        if (!in(code, 33, 126)) {
            return BAD;
        }
        if (pad.length() == 60) {
            return FULL;
        }
        pad += (char) code;
        return pad.length();
    }

    int clear() {
        int before = pad.length();
        pad = "";
        return before;
    }

    int fault() {
        for (int length = 1; length <= pad.length(); length++) {
            // A prefix may go on to a program if the pattern matches it, or only wants more of it.
            Matcher matcher = PROGRAM.matcher(pad.substring(0, length));
            if (!matcher.matches() && !matcher.hitEnd()) {
                return length - 1;
            }
        }
        return PROGRAM.matcher(pad).matches() ? NOTHING : pad.length();
    }

    int run() {
        if (fault() != NOTHING) {
            return IMPOSSIBLE;
        }
        change();
        int segments = 0;
        for (String segment : pad.split(";")) {
            String[] numbers = segment.split("[/xh]");
            if (!segment.startsWith("h")) {
                now.aim = Integer.parseInt(numbers[0]);
                now.rate = Integer.parseInt(numbers[1]);
            }
            segments++;
            if (now.pass(Integer.parseInt(numbers[numbers.length - 1])) > 0) {
                break;
            }
        }
        pad = "";
        return segments;
    }

    int cell(int cell, int what) {
        if (!in(cell, 0, 35) || !in(what, 0, 4)) {
            return BAD;
        }
        int whole = 0;
        int stress = NOTHING;
        for (Joint joint : now.wholeOnes()) {
            if (joint.has(cell)) {
                whole++;
                stress = Math.max(stress, now.stress(joint));
            }
        }
        int[] answers = {now.heats[cell], now.pieceOf(cell).first(), whole, sides(cell), stress};
        return answers[what];
    }

    int joint(int joint, int what) {
        if (!in(joint, 0, 59) || !in(what, 0, 6)) {
            return BAD;
        }
        Joint one = now.joints.get(joint);
        int touching = 0;
        for (Joint other : now.wholeOnes()) {
            touching += one.touches(other) ? 1 : 0;
        }
        int[] answers = {one.first, one.second, one.whole ? 1 : 0, one.strength, now.stress(one), one.minute, touching};
        return answers[what];
    }

    int strained(int place) {
        if (place < 0) {
            return BAD;
        }
        List<Joint> order = now.inOrder();
        return place < order.size() ? order.get(place).number : NOTHING;
    }

    int pieces(int way) {
        if (!in(way, 0, 1)) {
            return BAD;
        }
        TreeSet<Integer> names = new TreeSet<>();
        for (int cell = 0; cell < 36; cell++) {
            names.add(now.pieceOf(cell).first());
        }
        return names.size();
    }

    int count(int what) {
        if (!in(what, 0, 16)) {
            return BAD;
        }
        int sum = 0;
        int greatestPiece = 0;
        TreeSet<Integer> heats = new TreeSet<>();
        for (int cell = 0; cell < 36; cell++) {
            sum += now.heats[cell];
            heats.add(now.heats[cell]);
            greatestPiece = Math.max(greatestPiece, now.pieceOf(cell).size());
        }
        List<Joint> order = now.inOrder();
        int margin = order.isEmpty() ? NOTHING : order.get(0).strength - now.stress(order.get(0));
        int[] answers = {now.furnace, now.aim, now.rate, now.minutes, sum, now.loss, 60 - order.size(), heats.last(),
            heats.first(), now.greatestStress(NOTHING), margin, greatestPiece, now.settings[0], now.settings[1],
            now.flames, pad.length(), history.size()};
        return answers[what];
    }

    double mean(int cell) {
        if (!in(cell, 0, 35)) {
            return -1.0;
        }
        TreeSet<Integer> piece = now.pieceOf(cell);
        long sum = 0;
        for (int one : piece) {
            sum += now.heats[one];
        }
        return (double) sum / piece.size();
    }

    int ifPassed(int minutes, int what) {
        if (!in(minutes, 1, 99) || !in(what, 0, 3)) {
            return BAD;
        }
        State then = now.copy();
        int first = NOTHING;
        int cracks = 0;
        int stress = 0;
        for (int minute = 1; minute <= minutes; minute++) {
            then.flow();
            stress = Math.max(stress, then.greatestStress(0));
            cracks += then.crack();
            if (cracks == 1 && first == NOTHING) {
                first = minute;
            }
        }
        int[] answers = {cracks, first, stress, then.loss};
        return answers[what];
    }

    int fastest(int heat, int minutes) {
        if (!in(heat, 0, 1000) || !in(minutes, 1, 99)) {
            return BAD;
        }
        int greatest = NOTHING;
        for (int rate = 1; rate <= 100; rate++) {
            State then = now.copy();
            then.aim = heat;
            then.rate = rate;
            boolean harm = false;
            for (int minute = 0; minute < minutes && !harm; minute++) {
                harm = then.pass(1) > 0;
            }
            greatest = harm ? greatest : rate;
        }
        return greatest;
    }

    int evenIn(int stress) {
        if (!in(stress, 0, 500)) {
            return BAD;
        }
        for (int minutes = 0; minutes <= 99; minutes++) {
            State then = now.copy();
            then.pass(minutes);
            if (then.greatestStress(0) <= stress) {
                return minutes;
            }
        }
        return NOTHING;
    }

    int undo() {
        if (history.isEmpty()) {
            return IMPOSSIBLE;
        }
        now = history.removeLast();
        return history.size();
    }

    int save() {
        snapshot = now.copy();
        return now.minutes;
    }

    int restore() {
        if (snapshot == null) {
            return IMPOSSIBLE;
        }
        change();
        now = snapshot.copy();
        return now.minutes;
    }
}
