/** The terms behind all promises: in which order TYPES start, where FIELDS are looked for, rings, and sharing. */
public final class TermsTest {
    private static final Checks CHECKS = new Checks("terms");

    public static void main(String[] args) {
        parentsAndFullFacesFirst();
        facesStartNothingAbove();
        failuresAboveGoOn();
        facesBeforeParents();
        ringsSeeZeros();
        ownFieldsMustBePlain();
        namesThatAreNotThere();
        numbersWrap();
        sharedTypes();
        longestChain();
        CHECKS.end();
    }

    private static void startsDue(ExtensionStarts x, int... types) {
        CHECKS.due("starts", x.about(2), types.length);
        for (int i = 0; i < types.length; i++) {
            CHECKS.due("start(" + i + ", 0)", x.start(i, 0), types[i]);
        }
    }

    private static void parentsAndFullFacesFirst() {
        ExtensionStarts x = new ExtensionStarts();
        int[] kinds = {Acts.FULL_FACE, Acts.FULL_FACE, Acts.FACE, Acts.FULL_FACE, Acts.FULL_FACE};
        for (int kind : kinds) {
            x.type(kind, Acts.NONE, false);
        }
        x.face(2, 1);
        x.face(2, 0);
        x.face(3, 2);
        x.type(Acts.CLASS, Acts.NONE, false);
        x.face(5, 4);
        x.type(Acts.CLASS, 5, false);
        x.face(6, 3);
        x.face(6, 0);
        x.line(6, Acts.MAKE, 5, 0, 0);
        Acts.make(x, 0, 6);
        startsDue(x, 4, 5, 1, 0, 3, 6);
    }

    private static void facesStartNothingAbove() {
        ExtensionStarts x = new ExtensionStarts();
        x.type(Acts.FULL_FACE, Acts.NONE, false);
        x.type(Acts.FULL_FACE, Acts.NONE, false);
        x.face(1, 0);
        x.field(1, 0, false, 0);
        x.type(Acts.CLASS, Acts.NONE, false);
        x.face(2, 1);
        CHECKS.due("asked", Acts.ask(x, 0, 2, 0), 0);
        startsDue(x, 1);
        Acts.make(x, 0, 2);
        startsDue(x, 1, 0, 2);
    }

    private static void failuresAboveGoOn() {
        ExtensionStarts x = new ExtensionStarts();
        x.type(Acts.CLASS, Acts.NONE, false);
        x.type(Acts.FULL_FACE, Acts.NONE, false);
        x.type(Acts.CLASS, 0, false);
        x.face(2, 1);
        x.line(0, Acts.FAIL, 5, 0, 0);
        x.line(2, Acts.TELL, 1, 0, 0);
        CHECKS.failureDue("by its parent", x, Acts.make(x, 0, 2), 15);
        CHECKS.startDue(x, 0, 0, 0, 15, 1);
        CHECKS.startDue(x, 1, 2, 0, 15, 1);
        CHECKS.due("the face after it is not started", x.told(0, 1, 0), Acts.ASLEEP);
        CHECKS.due("lines are not done", x.about(3), 0);
        x.type(Acts.CLASS, 0, false);
        CHECKS.failureDue("a broken parent", x, Acts.make(x, 0, 3), Acts.NOT_FOUND);
        CHECKS.startDue(x, 2, 3, 0, Acts.NOT_FOUND, 2);
        x.type(Acts.CLASS, Acts.NONE, false);
        x.face(4, 1);
        x.line(1, Acts.FAIL, 6, 0, 0);
        CHECKS.failureDue("by its face", x, Acts.make(x, 0, 4), 16);
        CHECKS.due("broken", x.told(0, 4, 0), Acts.BROKEN);
    }

    /** FIELD 0 is in a FACE above a FACE and in the PARENT; FIELD 1 in the second FACE and above the first. */
    private static void facesBeforeParents() {
        ExtensionStarts x = new ExtensionStarts();
        x.type(Acts.FACE, Acts.NONE, false);
        x.type(Acts.FACE, Acts.NONE, false);
        x.type(Acts.FACE, Acts.NONE, false);
        x.face(1, 0);
        x.type(Acts.CLASS, Acts.NONE, false);
        x.type(Acts.CLASS, 3, false);
        x.face(4, 1);
        x.face(4, 2);
        x.field(0, 0, true, 10);
        x.field(3, 0, true, 13);
        x.field(0, 1, true, 20);
        x.field(2, 1, true, 22);
        x.field(3, 2, true, 33);
        x.field(3, 3, true, 43);
        x.field(4, 3, true, 44);
        CHECKS.due("face above a face", Acts.ask(x, 0, 4, 0), 10);
        CHECKS.due("above the first face", Acts.ask(x, 0, 4, 1), 20);
        CHECKS.due("parent", Acts.ask(x, 0, 4, 2), 33);
        CHECKS.due("itself", Acts.ask(x, 0, 4, 3), 44);
        x.field(2, 2, false, 0);
        CHECKS.due("set in a face", Acts.set(x, 0, 4, 2, 6), 0);
        CHECKS.due("its home", x.peek(0, 2, 2), 6);
        startsDue(x, 2);
    }

    private static void ringsSeeZeros() {
        ExtensionStarts x = Acts.classes(2);
        x.line(0, Acts.ADD, 0, 1, 0);
        x.line(0, Acts.PUT, 0, 5, 0);
        x.line(1, Acts.ADD, 0, 0, 0);
        x.line(1, Acts.MAKE, 0, 0, 0);
        x.field(1, 1, false, 0);
        x.line(1, Acts.PUT, 1, 6, 0);
        CHECKS.due("asked", Acts.ask(x, 0, 0, 0), 5);
        CHECKS.due("a zero was seen", x.peek(0, 1, 0), 0);
        CHECKS.due("a thing of a starting type", x.told(0, 0, 1), 1);
        startsDue(x, 1, 0);
        Acts.ask(x, 1, 1, 0);
        CHECKS.due("the other way round", x.peek(1, 1, 0), 5);
    }

    private static void ownFieldsMustBePlain() {
        ExtensionStarts x = Acts.classes(6);
        x.field(0, 1, true, 3);
        x.line(0, Acts.PUT, 1, 0, 0);
        CHECKS.failureDue("put to a constant", x, Acts.make(x, 0, 0), 12);
        x.line(1, Acts.ADD, 1, 2, 0);
        CHECKS.failureDue("add to what is not there", x, Acts.make(x, 0, 1), 12);
        CHECKS.due("asked before", x.told(0, 2, 0), Acts.AWAKE);
        x.line(3, Acts.TRY, 1, 4, 0);
        CHECKS.failureDue("try to what is not there", x, Acts.make(x, 0, 3), 12);
        CHECKS.due("made before", x.told(0, 4, 1), 1);
        x.type(Acts.CLASS, 5, false);
        x.line(6, Acts.PUT, 0, 1, 0);
        CHECKS.failureDue("a parent's field is not its own", x, Acts.make(x, 0, 6), 12);
        x.restart(0);
        x.line(5, Acts.FAIL, 0, 0, 0);
        x.type(Acts.CLASS, Acts.NONE, false);
        x.line(7, Acts.ADD, 1, 5, 0);
        CHECKS.failureDue("the failure of asking comes first", x, Acts.make(x, 0, 7), 10);
    }

    private static void namesThatAreNotThere() {
        ExtensionStarts x = Acts.classes(4);
        x.line(0, Acts.MAKE, 4, 0, 0);
        x.line(1, Acts.ADD, 0, 4, 0);
        x.line(2, Acts.ADD, 0, 3, 4);
        x.line(3, Acts.TRY, 0, 4, 0);
        CHECKS.failureDue("make", x, Acts.make(x, 0, 0), Acts.NOT_FOUND);
        CHECKS.failureDue("add of no type", x, Acts.make(x, 0, 1), Acts.NOT_FOUND);
        CHECKS.failureDue("add of no field", x, Acts.make(x, 0, 2), Acts.NOT_FOUND);
        CHECKS.due("asking for no field starts nothing", x.told(0, 3, 0), Acts.ASLEEP);
        CHECKS.due("try", Acts.make(x, 0, 3), 1);
        CHECKS.due("try keeps it", x.peek(0, 3, 0), Acts.NOT_FOUND);
        CHECKS.due("each took its step", x.about(4), 4);
        x.type(Acts.FULL_FACE, Acts.NONE, false);
        CHECKS.failureDue("a thing of a face", x, Acts.make(x, 1, 0), Acts.NOT_FOUND);
        CHECKS.due("the face is not started", x.told(1, 4, 0), Acts.ASLEEP);
        ExtensionStarts y = Acts.classes(1);
        y.line(0, Acts.MAKE, 1, 0, 0);
        y.type(Acts.CLASS, Acts.NONE, false);
        CHECKS.due("a type that came later is there", Acts.make(y, 0, 0), 1);
        CHECKS.due("and made", y.told(0, 1, 1), 1);
    }

    /** Each of 4 TYPES doubles its number 7 times, after taking that of the one before: 999 * 2^28 wraps. */
    private static void numbersWrap() {
        ExtensionStarts x = Acts.classes(5);
        int due = 999;
        x.line(0, Acts.PUT, 0, 999, 0);
        for (int t = 1; t < 5; t++) {
            x.line(t, Acts.ADD, 0, t - 1, 0);
            for (int i = 0; i < 7; i++) {
                x.line(t, Acts.ADD, 0, t, 0);
                due += due;
            }
        }
        CHECKS.due("wrapped", Acts.ask(x, 0, 4, 0), due);
        CHECKS.due("what it was", Acts.set(x, 0, 4, 0, 0), due);
    }

    private static void sharedTypes() {
        ExtensionStarts x = new ExtensionStarts();
        x.type(Acts.CLASS, Acts.NONE, true);
        x.type(Acts.CLASS, Acts.NONE, true);
        x.field(0, 0, false, 0);
        x.line(0, Acts.PUT, 0, 5, 0);
        x.line(1, Acts.FAIL, 2, 0, 0);
        CHECKS.due("made", Acts.make(x, 2, 0), 1);
        CHECKS.due("awake for all", x.told(0, 0, 0), Acts.AWAKE);
        CHECKS.due("numbers for all", x.peek(3, 0, 0), 5);
        CHECKS.due("not 0 for all", x.told(3, 0, 2), 1);
        CHECKS.due("things for one", x.told(0, 0, 1), 0);
        CHECKS.due("made elsewhere", Acts.make(x, 0, 0), 1);
        CHECKS.due("set elsewhere", Acts.set(x, 1, 0, 0, 8), 5);
        CHECKS.due("seen here", Acts.ask(x, 2, 0, 0), 8);
        CHECKS.failureDue("by its cause", x, Acts.make(x, 3, 1), 12);
        CHECKS.failureDue("elsewhere as not found", x, Acts.make(x, 0, 1), Acts.NOT_FOUND);
        CHECKS.due("two starts", x.about(2), 2);
        CHECKS.startDue(x, 1, 1, 3, 12, 5);
    }

    private static void longestChain() {
        ExtensionStarts x = Acts.classes(16);
        for (int t = 0; t < 16; t++) {
            x.line(t, Acts.ADD, 0, (t + 1) % 16, 0);
            x.line(t, Acts.PUT, 0, t, 0);
        }
        CHECKS.due("made", Acts.make(x, 0, 0), 1);
        CHECKS.due("all are awake", x.about(2), 16);
        CHECKS.due("the last one first", x.start(0, 0), 15);
    }
}
