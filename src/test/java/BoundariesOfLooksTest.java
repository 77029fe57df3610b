/** The boundary cases of promises 8, 9 and 15: told, peek and about at their edges. */
public final class BoundariesOfLooksTest {
    private static final Checks CHECKS = new Checks("boundaries of looks");
    private static final int LEAST = Integer.MIN_VALUE, MOST = Integer.MAX_VALUE;
    private static final int[] NO_SESSIONS = {LEAST, -1, 4, MOST};
    private static final int[] NO_TYPES = {LEAST, -1, 2, 16, MOST};

    public static void main(String[] args) {
        toldUnknown();
        toldOutside();
        toldCountsAllFiveFields();
        toldOfAFace();
        peekUnknown();
        peekOfNoPlainField();
        peekIsOfTheTypeItself();
        numbersLikeRefusals();
        looksStartNothing();
        aboutOutside();
        aboutCountsAtTheLimits();
        CHECKS.end();
    }

    /** "UNKNOWN", before OUTSIDE. */
    private static void toldUnknown() {
        ExtensionStarts x = Acts.classes(2);
        for (int what = -1; what <= 3; what++) {
            for (int s : NO_SESSIONS) {
                CHECKS.due("session " + s, x.told(s, 0, what), Acts.UNKNOWN);
            }
            for (int t : NO_TYPES) {
                CHECKS.due("type " + t, x.told(3, t, what), Acts.UNKNOWN);
            }
        }
    }

    private static void toldOutside() {
        ExtensionStarts x = Acts.classes(2);
        for (int what : new int[] {LEAST, -1, 3, MOST}) {
            CHECKS.due("what " + what, x.told(0, 1, what), Acts.OUTSIDE);
        }
        for (int what = 0; what < 3; what++) {
            CHECKS.due("what " + what, x.told(3, 1, what), 0);
        }
    }

    /** From none to five; those that CONSTANT ones had when PLAIN do not count. */
    private static void toldCountsAllFiveFields() {
        ExtensionStarts x = Acts.classes(2);
        for (int f = 0; f < 5; f++) {
            x.field(1, f, false, 0);
            CHECKS.due("0 does not count", x.told(2, 1, 2), f);
            Acts.set(x, 2, 1, f, f % 2 == 0 ? 1 : -1);
            CHECKS.due("not 0", x.told(2, 1, 2), f + 1);
        }
        for (int f = 0; f < 5; f++) {
            x.field(1, f, true, 9);
            CHECKS.due("constant", x.told(2, 1, 2), 4 - f);
        }
        CHECKS.due("of its neighbour", x.told(2, 0, 2), 0);
    }

    private static void toldOfAFace() {
        ExtensionStarts x = new ExtensionStarts();
        x.type(Acts.FULL_FACE, Acts.NONE, false);
        x.field(0, 0, false, 0);
        x.line(0, Acts.PUT, 0, 5, 0);
        x.line(0, Acts.FAIL, 0, 0, 0);
        Acts.ask(x, 0, 0, 0);
        CHECKS.due("broken", x.told(0, 0, 0), Acts.BROKEN);
        CHECKS.due("no things", x.told(0, 0, 1), 0);
        CHECKS.due("a field that was written before it broke", x.told(0, 0, 2), 1);
    }

    /** "UNKNOWN: SESSION, TYPE", before STATE. */
    private static void peekUnknown() {
        ExtensionStarts x = Acts.classes(2);
        for (int f = -1; f <= 5; f++) {
            for (int s : NO_SESSIONS) {
                CHECKS.due("session " + s, x.peek(s, 0, f), Acts.UNKNOWN);
            }
            for (int t : NO_TYPES) {
                CHECKS.due("type " + t, x.peek(3, t, f), Acts.UNKNOWN);
            }
        }
    }

    /** "STATE: it has no such PLAIN FIELD": a number that no FIELD has, too. */
    private static void peekOfNoPlainField() {
        ExtensionStarts x = Acts.classes(2);
        x.field(1, 4, true, 3);
        for (int f : new int[] {LEAST, -1, 1, 2, 3, 4, 5, MOST}) {
            CHECKS.due("f " + f, x.peek(0, 1, f), Acts.STATE);
        }
        x.field(1, 4, false, 3);
        CHECKS.due("f 0", x.peek(3, 1, 0), 0);
        CHECKS.due("f 4", x.peek(3, 1, 4), 0);
    }

    /** "of a TYPE itself": not of what is above it. */
    private static void peekIsOfTheTypeItself() {
        ExtensionStarts x = new ExtensionStarts();
        x.type(Acts.FACE, Acts.NONE, false);
        x.type(Acts.CLASS, Acts.NONE, false);
        x.type(Acts.CLASS, 1, false);
        x.face(2, 0);
        x.field(0, 0, false, 0);
        x.field(1, 1, false, 0);
        CHECKS.due("set in the face", Acts.set(x, 0, 2, 0, 5), 0);
        CHECKS.due("set in the parent", Acts.set(x, 0, 2, 1, 6), 0);
        CHECKS.due("of the face", x.peek(0, 2, 0), Acts.STATE);
        CHECKS.due("of the parent", x.peek(0, 2, 1), Acts.STATE);
        CHECKS.due("the face's", x.peek(0, 0, 0), 5);
        CHECKS.due("the parent's", x.peek(0, 1, 1), 6);
        CHECKS.due("none of these is its own", x.told(0, 2, 2), 0);
    }

    /** "(These may be its number, too.)" */
    private static void numbersLikeRefusals() {
        ExtensionStarts x = Acts.classes(1);
        int was = 0;
        for (int v : new int[] {Acts.NONE, Acts.UNKNOWN, Acts.OUTSIDE, Acts.STATE, Acts.FULL}) {
            CHECKS.due("what it was", Acts.set(x, 0, 0, 0, v), was);
            CHECKS.due("peek", x.peek(0, 0, 0), v);
            CHECKS.due("asked", Acts.ask(x, 0, 0, 0), v);
            CHECKS.due("is a use", x.failure(), 0);
            was = v;
        }
        CHECKS.due("ten uses", x.about(1), 10);
    }

    /** "(nothing is STARTED)". */
    private static void looksStartNothing() {
        ExtensionStarts x = Acts.classes(2);
        for (int t = 0; t < 2; t++) {
            x.line(t, Acts.TELL, 1, 0, 0);
            x.peek(0, t, 0);
            x.told(0, t, 0);
            x.told(0, t, 1);
            x.told(0, t, 2);
        }
        for (int what = 1; what <= 4; what++) {
            CHECKS.due("about(" + what + ")", x.about(what), 0);
        }
    }

    private static void aboutOutside() {
        ExtensionStarts x = Acts.classes(2);
        for (int what : new int[] {LEAST, -1, 5, MOST}) {
            CHECKS.due("what " + what, x.about(what), Acts.OUTSIDE);
        }
        CHECKS.due("what 0", x.about(0), 2);
        CHECKS.due("what 4", x.about(4), 0);
    }

    /** STEPS in all go on beyond what a SESSION can have at once, and USES beyond the STARTS that are kept. */
    private static void aboutCountsAtTheLimits() {
        ExtensionStarts x = Acts.classes(1);
        for (int i = 0; i < 8; i++) {
            x.line(0, Acts.WAIT, 1000, 0, 0);
        }
        for (int i = 1; i <= 13; i++) {
            x.steps(1, 100000);
            CHECKS.due("made", Acts.make(x, 1, 0), 1);
            CHECKS.due("8 times 1001", x.steps(1, 0), 91992);
            x.restart(1);
        }
        CHECKS.due("steps in all", x.about(4), 104104);
        CHECKS.due("uses", x.about(1), 13);
    }
}
