import java.util.List;
import java.util.function.Supplier;
import java.util.function.ToIntFunction;

/**
 * Calls that are refused: what they answer, and that they change nothing. A twin that was not asked
 * has to go on as the object that was.
 */
final class Refused {
    private static final int BAD = ColdPanes.INVALID_ARGUMENT;

    private Refused() {
    }

    /** An INVALID_ARGUMENT in any state: of a new object, of one that much happened to, of shards. */
    static void asInvalid(String call, ToIntFunction<ColdPanes> ask) {
        for (Supplier<ColdPanes> state : List.<Supplier<ColdPanes>>of(ColdPanes::new, Refused::lively, Refused::shards)) {
            in(state, call, ask, BAD);
        }
    }

    static void in(Supplier<ColdPanes> state, String call, ToIntFunction<ColdPanes> ask, int error) {
        for (int aspect = 0; aspect < Picture.ASPECTS; aspect++) {
            ColdPanes asked = state.get();
            ColdPanes twin = state.get();
            Check.due(call, ask.applyAsInt(asked), error);
            Check.due(call + " once more", ask.applyAsInt(asked), error);
            Check.dueTrue(call + " changes nothing, seen by " + aspect,
                Picture.aspect(asked, aspect).equals(Picture.aspect(twin, aspect)));
        }
    }

    /** Cracked joints and whole ones, a full history, a snapshot of another state, and a program on the pad. */
    static ColdPanes lively() {
        ColdPanes x = new ColdPanes();
        x.set(ColdPanes.LEAD, 5);
        x.set(ColdPanes.RIM, 11);
        x.heat(0, 180);
        x.heat(0, 180);
        x.heat(35, -150);
        x.scratch(30, 12);
        x.pass(2);
        x.save();
        x.aim(300, 25);
        x.pass(5);
        Check.dueTrue("a lively pane has cracked joints", x.count(6) > 1);
        Check.due("its joint 0", x.joint(0, 2), 0);
        Check.due("its joint 37", x.joint(37, 2), 1);
        Check.due("its history", x.count(16), 4);
        Check.write(x, "250/30x3;h2");
        return x;
    }

    /** No whole joint, and a pad that is full and not complete. */
    static ColdPanes shards() {
        ColdPanes x = Check.shattered();
        Check.write(x, Check.repeated("h1;", 19) + "7/5");
        Check.due("its pad", x.count(15), 60);
        return x;
    }
}
