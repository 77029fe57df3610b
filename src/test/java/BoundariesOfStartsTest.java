/** The longest STARTS within STARTS, of all 16 TYPES, by each way that leads from one to the next; and many ways to one. */
public final class BoundariesOfStartsTest {
    private static final Checks CHECKS = new Checks("boundaries of starts");
    private static final int LAST = 15;

    public static void main(String[] args) {
        for (int how = Acts.MAKING; how <= Acts.SETTING; how++) {
            chainByLines(Acts.ADD, how);
            chainByLines(Acts.MAKE, how);
            chainByLines(Acts.TRY, how);
            chainByParents(how);
            chainByFullFaces(how);
        }
        failureGoesTheWholeWay();
        failureGoesNoFurtherThanATry();
        notFoundAtTheEnd();
        manyWaysToOneFace();
        failureOfAFaceWithManyWays();
        CHECKS.end();
    }

    private static void allAreAwake(String chain, ExtensionStarts x, int how) {
        CHECKS.due(chain + ", how " + how, x.use(0, LAST, how, 0, 7), how == Acts.MAKING ? x.told(0, LAST, 1) : 0);
        CHECKS.due(chain + ": failure()", x.failure(), 0);
        CHECKS.due(chain + ": starts", x.about(2), 16);
        for (int t = 0; t < 16; t++) {
            CHECKS.startDue(x, t, t, 0, 0, 1);
        }
    }

    /** Each TYPE names the one before, and the first one the last: a ring of 16. */
    private static void chainByLines(int act, int how) {
        ExtensionStarts x = Acts.classes(16);
        for (int t = 0; t < 16; t++) {
            int next = (t + LAST) % 16;
            x.line(t, act, act == Acts.MAKE ? next : 0, next, 0);
        }
        allAreAwake("act " + act, x, how);
        int byLines = act == Acts.ADD ? 0 : 1;
        CHECKS.due("things of the last", x.told(0, LAST, 1), how == Acts.MAKING ? byLines + 1 : byLines);
    }

    private static void chainByParents(int how) {
        ExtensionStarts x = new ExtensionStarts();
        for (int t = 0; t < 16; t++) {
            x.type(Acts.CLASS, t - 1, false);
        }
        x.field(LAST, 0, false, 0);
        allAreAwake("parents", x, how);
    }

    /** CLASSES with a FULL FACE above each, which makes a thing of the CLASS before. */
    private static void chainByFullFaces(int how) {
        ExtensionStarts x = new ExtensionStarts();
        for (int t = 0; t < 16; t += 2) {
            x.type(Acts.FULL_FACE, Acts.NONE, false);
            x.type(Acts.CLASS, Acts.NONE, false);
            x.face(t + 1, t);
            CHECKS.due("line", t == 0 ? 1 : x.line(t, Acts.MAKE, t - 1, 0, 0), 1);
        }
        x.field(LAST, 0, false, 0);
        allAreAwake("full faces", x, how);
    }

    /** "A FAILURE in that ends it: it is BROKEN, and the FAILURE goes on to what had it STARTED". */
    private static void failureGoesTheWholeWay() {
        ExtensionStarts x = Acts.classes(16);
        x.line(0, Acts.FAIL, 6, 0, 0);
        for (int t = 1; t < 16; t++) {
            x.line(t, Acts.MAKE, t - 1, 0, 0);
            x.line(t, Acts.TELL, t, 0, 0);
        }
        CHECKS.failureDue("made", x, Acts.make(x, 0, LAST), 16);
        for (int t = 0; t < 16; t++) {
            CHECKS.startDue(x, t, t, 0, 16, 1);
            CHECKS.due("broken", x.told(0, t, 0), Acts.BROKEN);
            CHECKS.due("no thing", x.told(0, t, 1), 0);
        }
        CHECKS.due("nothing after it is done", x.about(3), 0);
        CHECKS.failureDue("later", x, Acts.make(x, 0, LAST), Acts.NOT_FOUND);
    }

    /** "if that is a FAILURE, it goes no further". */
    private static void failureGoesNoFurtherThanATry() {
        for (int cause = 0; cause <= 6; cause++) {
            ExtensionStarts x = Acts.classes(3);
            x.line(0, Acts.FAIL, cause, 0, 0);
            x.line(1, Acts.TRY, 0, 0, 0);
            x.line(1, Acts.TELL, 4, 0, 0);
            x.line(2, Acts.MAKE, 1, 0, 0);
            CHECKS.due("made", Acts.make(x, 0, 2), 1);
            CHECKS.due("failure()", x.failure(), 0);
            CHECKS.due("what the try has", x.peek(0, 1, 0), 10 + cause);
            CHECKS.due("the line after it", x.message(0), 4);
            CHECKS.due("broken", x.told(0, 0, 0), Acts.BROKEN);
        }
    }

    /** What a LINE names and is not there, a FACE, or no FIELD: NOT FOUND, at the end of the longest chain too. */
    private static void notFoundAtTheEnd() {
        ExtensionStarts x = new ExtensionStarts();
        x.type(Acts.FULL_FACE, Acts.NONE, false);
        for (int t = 1; t < 16; t++) {
            x.type(Acts.CLASS, Acts.NONE, false);
            x.line(t, Acts.MAKE, t - 1, 0, 0);
        }
        CHECKS.failureDue("made", x, Acts.make(x, 0, LAST), Acts.NOT_FOUND);
        CHECKS.due("all but the face", x.about(2), LAST);
        CHECKS.due("the face", x.told(0, 0, 0), Acts.ASLEEP);
        CHECKS.startDue(x, 0, 1, 0, Acts.NOT_FOUND, 1);
    }

    /** Of FACES 1 .. 14 each has the three before it above it, so there are thousands of ways to the first. */
    private static ExtensionStarts manyWays(int kind) {
        ExtensionStarts x = new ExtensionStarts();
        x.type(Acts.CLASS, Acts.NONE, false);
        for (int t = 1; t < LAST; t++) {
            x.type(kind, Acts.NONE, false);
            for (int face = t - 1; face >= 1 && face >= t - 3; face--) {
                x.face(t, face);
            }
        }
        x.type(Acts.CLASS, 0, false);
        for (int face = 12; face <= 14; face++) {
            x.face(LAST, face);
        }
        return x;
    }

    private static void manyWaysToOneFace() {
        ExtensionStarts x = manyWays(Acts.FULL_FACE);
        x.field(0, 0, true, 100);
        x.field(0, 1, true, 100);
        x.field(1, 1, true, 101);
        x.field(12, 2, true, 112);
        x.field(14, 2, true, 114);
        CHECKS.due("the parent's, after all faces", Acts.ask(x, 0, LAST, 0), 100);
        CHECKS.due("the first face's, before the parent's", Acts.ask(x, 0, LAST, 1), 101);
        CHECKS.due("that of the first in order", Acts.ask(x, 0, LAST, 2), 112);
        CHECKS.due("made", Acts.make(x, 0, LAST), 1);
        CHECKS.due("each once", x.about(2), 16);
        for (int t = 0; t < 16; t++) {
            CHECKS.startDue(x, t, t, 0, 0, 4);
        }
        ExtensionStarts y = manyWays(Acts.FACE);
        CHECKS.due("made", Acts.make(y, 0, LAST), 1);
        CHECKS.due("no full ones", y.about(2), 2);
    }

    private static void failureOfAFaceWithManyWays() {
        ExtensionStarts x = manyWays(Acts.FULL_FACE);
        x.line(1, Acts.FAIL, 1, 0, 0);
        CHECKS.failureDue("made", x, Acts.make(x, 0, LAST), 11);
        CHECKS.startDue(x, 0, 0, 0, 0, 1);
        CHECKS.startDue(x, 1, 1, 0, 11, 1);
        CHECKS.startDue(x, 2, LAST, 0, 11, 1);
        CHECKS.due("no other face is started", x.about(2), 3);
        x.field(14, 0, false, 0);
        CHECKS.due("a face starts nothing above it", Acts.ask(x, 0, 14, 0), 0);
        CHECKS.startDue(x, 3, 14, 0, 0, 2);
    }
}
