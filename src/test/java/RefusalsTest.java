import java.util.List;
import java.util.function.Function;
import java.util.function.ToIntFunction;

/** "Refusals are answers, and change nothing": after a refused call an object is as one that had no such call. */
public final class RefusalsTest {
    private static final Checks CHECKS = new Checks("refusals");
    private static final int UNKNOWN = Acts.UNKNOWN, OUTSIDE = Acts.OUTSIDE, STATE = Acts.STATE, FULL = Acts.FULL;

    /** The name, the answer that is due, and the call. */
    private record Refused(String name, int due, ToIntFunction<ExtensionStarts> call) { }

    private static final List<Refused> OF_BUILDING = List.of(
        new Refused("type, kind", OUTSIDE, x -> x.type(3, Acts.NONE, false)),
        new Refused("type, no parent", UNKNOWN, x -> x.type(Acts.CLASS, 16, false)),
        new Refused("type, parent is a face", UNKNOWN, x -> x.type(Acts.CLASS, 0, false)),
        new Refused("type, parent of a face", UNKNOWN, x -> x.type(Acts.FACE, 6, false)),
        new Refused("type, shared", STATE, x -> x.type(Acts.CLASS, 7, true)),
        new Refused("face, no type", UNKNOWN, x -> x.face(16, 0)),
        new Refused("face, no face", UNKNOWN, x -> x.face(7, 16)),
        new Refused("face, a class", UNKNOWN, x -> x.face(7, 6)),
        new Refused("face, not before", UNKNOWN, x -> x.face(0, 1)),
        new Refused("face, not shared", STATE, x -> x.face(6, 1)),
        new Refused("face, above already", STATE, x -> x.face(7, 1)),
        new Refused("face, full", FULL, x -> x.face(7, 4)),
        new Refused("field, no type", UNKNOWN, x -> x.field(16, 0, true, 1)),
        new Refused("field, f", OUTSIDE, x -> x.field(7, 5, true, 1)),
        new Refused("field, v of a plain one", OUTSIDE, x -> x.field(7, 0, true, 1000)),
        new Refused("field, v of a constant", OUTSIDE, x -> x.field(7, 1, true, -1000)),
        new Refused("field, v of none", OUTSIDE, x -> x.field(7, 4, true, 1000)),
        new Refused("line, no type", UNKNOWN, x -> x.line(16, Acts.TELL, 0, 0, 0)),
        new Refused("line, act", OUTSIDE, x -> x.line(8, 7, 0, 0, 0)),
        new Refused("line, a", OUTSIDE, x -> x.line(8, Acts.PUT, 5, 0, 0)),
        new Refused("line, b", OUTSIDE, x -> x.line(8, Acts.PUT, 0, 1000, 0)),
        new Refused("line, name", OUTSIDE, x -> x.line(8, Acts.MAKE, 16, 0, 0)),
        new Refused("line, c", OUTSIDE, x -> x.line(8, Acts.ADD, 0, 0, 5)),
        new Refused("line, full", FULL, x -> x.line(7, Acts.TELL, 0, 0, 0)));

    private static final List<Refused> OF_USING = List.of(
        new Refused("use, session", UNKNOWN, x -> x.use(4, 8, Acts.MAKING, 0, 0)),
        new Refused("use, type", UNKNOWN, x -> x.use(0, 16, Acts.MAKING, 0, 0)),
        new Refused("use, how", OUTSIDE, x -> x.use(0, 8, 4, 0, 0)),
        new Refused("use, f asked", OUTSIDE, x -> x.use(0, 8, Acts.ASKING, 5, 0)),
        new Refused("use, f set", OUTSIDE, x -> x.use(0, 8, Acts.SETTING, -1, 0)),
        new Refused("use, v", OUTSIDE, x -> x.use(0, 8, Acts.SETTING, 0, 1000)),
        new Refused("use, a thing of a face", STATE, x -> x.use(0, 0, Acts.MAKING, 0, 0)),
        new Refused("use, a constant", STATE, x -> x.use(0, 8, Acts.SETTING, 1, 0)),
        new Refused("use, no field", STATE, x -> x.use(0, 8, Acts.SETTING, 4, 0)),
        new Refused("told, session", UNKNOWN, x -> x.told(-1, 8, 0)),
        new Refused("told, type", UNKNOWN, x -> x.told(0, 16, 0)),
        new Refused("told, what", OUTSIDE, x -> x.told(0, 8, 3)),
        new Refused("peek, session", UNKNOWN, x -> x.peek(4, 8, 0)),
        new Refused("peek, type", UNKNOWN, x -> x.peek(0, -1, 0)),
        new Refused("peek, a constant", STATE, x -> x.peek(0, 8, 1)),
        new Refused("peek, no field", STATE, x -> x.peek(0, 8, 5)),
        new Refused("start, none", Acts.NONE, x -> x.start(150, 0)),
        new Refused("start, what", OUTSIDE, x -> x.start(0, 4)),
        new Refused("steps, session", UNKNOWN, x -> x.steps(4, 7)),
        new Refused("steps, n", OUTSIDE, x -> x.steps(0, 100001)),
        new Refused("undo, session", UNKNOWN, x -> x.undo(4)),
        new Refused("undo, none", Acts.NONE, x -> x.undo(3)),
        new Refused("restart, session", UNKNOWN, x -> x.restart(-1)),
        new Refused("about, what", OUTSIDE, x -> x.about(5)),
        new Refused("message, none", 1, RefusalsTest::noMessage));

    private static final List<Function<ExtensionStarts, String>> LOOKS = List.of(
        RefusalsTest::countsAndWhatIsKept, RefusalsTest::howTypesAre, RefusalsTest::fieldsOfTypes,
        RefusalsTest::stepsAndUndoing, RefusalsTest::whatComesNext);

    public static void main(String[] args) {
        for (Refused refused : OF_BUILDING) {
            changesNothing(refused, 9);
            changesNothing(refused, 16);
        }
        for (Refused refused : OF_USING) {
            changesNothing(refused, 9);
            changesNothing(refused, 16);
        }
        changesNothing(new Refused("type, full", FULL, x -> x.type(Acts.CLASS, 7, false)), 16);
        CHECKS.end();
    }

    private static int noMessage(ExtensionStarts x) {
        try {
            x.message(-1);
            return 0;
        } catch (ArrayIndexOutOfBoundsException e) {
            return 1;
        }
    }

    /** Each way of looking has an object of its own, so that none is used for more than 512 calls. */
    private static void changesNothing(Refused refused, int types) {
        for (Function<ExtensionStarts, String> look : LOOKS) {
            ExtensionStarts x = story(types);
            CHECKS.due(refused.name, refused.call.applyAsInt(x), refused.due);
            CHECKS.due(refused.name + " again", refused.call.applyAsInt(x), refused.due);
            CHECKS.holds(refused.name + " changes nothing", look.apply(x).equals(look.apply(story(types))));
        }
    }

    /** FACES 0 to 5, SHARED but for 1, the SHARED CLASS 6, and CLASSES; a FAILURE is the latest USE's. */
    private static ExtensionStarts story(int types) {
        ExtensionStarts x = new ExtensionStarts();
        for (int t = 0; t < types; t++) {
            x.type(t < 6 ? 1 + t % 2 : Acts.CLASS, Acts.NONE, t != 1 && t < 7);
            x.field(t, 0, false, 0);
            x.field(t, 1, true, t);
        }
        for (int face = 1; face < 4; face++) {
            x.face(7, face);
        }
        for (int i = 0; i < 8; i++) {
            x.line(7, i < 4 ? Acts.TELL : Acts.PUT, i < 4 ? i : 0, i, 0);
        }
        x.line(8, Acts.PUT, 0, 5, 0);
        x.line(8, Acts.FAIL, 2, 0, 0);
        Acts.make(x, 0, 7);
        Acts.set(x, 0, 7, 0, 6);
        Acts.make(x, 1, 6);
        Acts.set(x, 1, 6, 0, 4);
        Acts.make(x, 1, 8);
        x.steps(2, 77);
        return x;
    }

    private static String countsAndWhatIsKept(ExtensionStarts x) {
        StringBuilder seen = new StringBuilder();
        for (int what = 0; what < 5; what++) {
            seen.append(x.about(what)).append(' ');
        }
        seen.append(x.failure()).append(' ');
        for (int i = 0; i < x.about(2); i++) {
            for (int what = 0; what < 4; what++) {
                seen.append(x.start(i, what)).append(' ');
            }
        }
        for (int i = 0; i < x.about(3); i++) {
            seen.append(x.message(i)).append(' ');
        }
        return seen.toString();
    }

    private static String howTypesAre(ExtensionStarts x) {
        StringBuilder seen = new StringBuilder();
        int types = x.about(0);
        for (int t = 0; t < types; t++) {
            for (int i = 0; i < 12; i++) {
                seen.append(x.told(i % 4, t, i / 4)).append(' ');
            }
        }
        return seen.toString();
    }

    private static String fieldsOfTypes(ExtensionStarts x) {
        StringBuilder seen = new StringBuilder();
        int types = x.about(0);
        for (int t = 0; t < types; t++) {
            for (int i = 0; i < 20; i++) {
                seen.append(x.peek(i % 4, t, i / 4)).append(' ');
            }
        }
        return seen.toString();
    }

    private static String stepsAndUndoing(ExtensionStarts x) {
        StringBuilder seen = new StringBuilder();
        for (int s = 0; s < 4; s++) {
            seen.append(x.steps(s, 1000)).append(' ');
            for (int i = 0; i < 4; i++) {
                seen.append(x.undo(s)).append(' ');
            }
            seen.append(x.restart(s)).append(' ');
        }
        return seen.toString();
    }

    /** FACES, LINES and CONSTANTS are seen only by what comes of them. */
    private static String whatComesNext(ExtensionStarts x) {
        StringBuilder seen = new StringBuilder();
        int types = x.about(0);
        for (int t = 0; t < types; t++) {
            seen.append(x.face(t, 0)).append(' ').append(x.line(t, Acts.TELL, 900 + t, 0, 0)).append(' ');
            for (int how = 0; how < 3; how++) {
                seen.append(x.use(3, t, how, how == Acts.ASKING ? 1 : 0, 3)).append(' ');
            }
        }
        seen.append(x.type(Acts.CLASS, 6, true)).append(' ');
        return seen.append(countsAndWhatIsKept(x)).append(x.restart(3)).toString();
    }
}
