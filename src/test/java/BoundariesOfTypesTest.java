/** The boundary cases of promises 1 to 3 and of the first terms: TYPES 0 .. 15, PARENTS, and up to 3 FACES above. */
public final class BoundariesOfTypesTest {
    private static final Checks CHECKS = new Checks("boundaries of types");
    private static final int[] NO_KINDS = {Integer.MIN_VALUE, -1, 3, Integer.MAX_VALUE};
    private static final int[] KINDS = {Acts.CLASS, Acts.FACE, Acts.FULL_FACE};

    public static void main(String[] args) {
        newObjectHasNoTypes();
        newObjectHasAThousandSteps();
        sixteenTypesOfAnyKind();
        lastTypeIsUsedAsAnyOther();
        kindOutside();
        parentNamesNothing();
        faceHasNoParent();
        sharedNeedsASharedParent();
        refusalsOfTypeInTheirOrder();
        longestChainOfParents();
        threeFacesAboveAnyKind();
        faceNamesNothing();
        faceAboveAlready();
        sharedNeedsSharedFaces();
        refusalsOfFaceInTheirOrder();
        longestChainOfFaces();
        CHECKS.end();
    }

    /** "No TYPES": every call that names one is refused, 0 too. */
    private static void newObjectHasNoTypes() {
        ExtensionStarts x = new ExtensionStarts();
        CHECKS.due("about(0)", x.about(0), 0);
        for (int t = 0; t < 16; t++) {
            CHECKS.due("parent", x.type(Acts.CLASS, t, false), Acts.UNKNOWN);
            CHECKS.due("face", x.face(t, 0), Acts.UNKNOWN);
            CHECKS.due("field", x.field(t, 0, false, 0), Acts.UNKNOWN);
            CHECKS.due("line", x.line(t, Acts.TELL, 0, 0, 0), Acts.UNKNOWN);
            CHECKS.due("use", x.use(0, t, Acts.ROW, 0, 0), Acts.UNKNOWN);
            CHECKS.due("told", x.told(0, t, 0), Acts.UNKNOWN);
            CHECKS.due("peek", x.peek(0, t, 0), Acts.UNKNOWN);
        }
        CHECKS.due("about(0)", x.about(0), 0);
    }

    /** "each SESSION has 1000 STEPS left": they are enough for 1000, and one more is too many. */
    private static void newObjectHasAThousandSteps() {
        ExtensionStarts x = Acts.classes(2);
        x.line(0, Acts.WAIT, 999, 0, 0);
        x.line(1, Acts.WAIT, 1000, 0, 0);
        for (int s = 0; s < 4; s++) {
            CHECKS.failureDue("1001", x, Acts.make(x, s, 1), Acts.TIRED);
            CHECKS.due("1000", Acts.make(x, s, 0), 1);
            CHECKS.due("none is left", x.steps(s, 0), 0);
        }
    }

    /** "TYPES 0 .. 15"; "FULL". */
    private static void sixteenTypesOfAnyKind() {
        ExtensionStarts x = new ExtensionStarts();
        for (int t = 0; t < 16; t++) {
            CHECKS.due("type", x.type(t % 3, Acts.NONE, t % 2 == 0), t);
            CHECKS.due("about(0)", x.about(0), t + 1);
        }
        for (int kind : KINDS) {
            CHECKS.due("17th", x.type(kind, Acts.NONE, false), Acts.FULL);
            CHECKS.due("17th, shared", x.type(kind, Acts.NONE, true), Acts.FULL);
        }
        CHECKS.due("about(0)", x.about(0), 16);
        CHECKS.due("16 names nothing", x.told(0, 16, 0), Acts.UNKNOWN);
        CHECKS.due("clear()", x.clear(), 16);
        CHECKS.due("there is room again", x.type(Acts.CLASS, Acts.NONE, false), 0);
    }

    private static void lastTypeIsUsedAsAnyOther() {
        ExtensionStarts x = new ExtensionStarts();
        x.type(Acts.FULL_FACE, Acts.NONE, false);
        for (int t = 1; t < 16; t++) {
            x.type(Acts.CLASS, Acts.NONE, false);
        }
        CHECKS.due("face", x.face(15, 0), 1);
        CHECKS.due("field", x.field(15, 4, false, 0), 0);
        CHECKS.due("line", x.line(15, Acts.PUT, 4, 6, 0), 1);
        CHECKS.due("line that names it", x.line(14, Acts.MAKE, 15, 0, 0), 1);
        CHECKS.due("made", Acts.make(x, 3, 14), 1);
        CHECKS.due("told", x.told(3, 15, 1), 1);
        CHECKS.due("peek", x.peek(3, 15, 4), 6);
        CHECKS.due("use", Acts.set(x, 3, 15, 4, 7), 6);
        CHECKS.startDue(x, 1, 15, 3, 0, 1);
        CHECKS.due("restart", x.restart(3), 3);
    }

    /** "OUTSIDE: kind", before all that comes after it. */
    private static void kindOutside() {
        ExtensionStarts x = Acts.classes(1);
        ExtensionStarts full = Acts.classes(16);
        for (int kind : NO_KINDS) {
            CHECKS.due("kind " + kind, x.type(kind, Acts.NONE, false), Acts.OUTSIDE);
            CHECKS.due("before parent", x.type(kind, 7, false), Acts.OUTSIDE);
            CHECKS.due("before sharing", x.type(kind, 0, true), Acts.OUTSIDE);
            CHECKS.due("before full", full.type(kind, Acts.NONE, false), Acts.OUTSIDE);
        }
        CHECKS.due("none came", x.about(0), 1);
    }

    /** "UNKNOWN: parent (.. no CLASS)". */
    private static void parentNamesNothing() {
        ExtensionStarts x = Acts.classes(2);
        x.type(Acts.FACE, Acts.NONE, true);
        x.type(Acts.FULL_FACE, Acts.NONE, true);
        for (int parent : new int[] {Integer.MIN_VALUE, -101, -2, 2, 3, 4, 5, 15, 16, Integer.MAX_VALUE}) {
            CHECKS.due("parent " + parent, x.type(Acts.CLASS, parent, false), Acts.UNKNOWN);
            CHECKS.due("shared, parent " + parent, x.type(Acts.CLASS, parent, true), Acts.UNKNOWN);
        }
        CHECKS.due("the first one", x.type(Acts.CLASS, 0, false), 4);
        CHECKS.due("the latest one", x.type(Acts.CLASS, 4, false), 5);
    }

    /** "of a FACE not NONE, too". */
    private static void faceHasNoParent() {
        ExtensionStarts x = new ExtensionStarts();
        x.type(Acts.CLASS, Acts.NONE, true);
        for (int kind = Acts.FACE; kind <= Acts.FULL_FACE; kind++) {
            for (int parent : new int[] {Integer.MIN_VALUE, -2, 0, 1, 16, Integer.MAX_VALUE}) {
                CHECKS.due("parent " + parent, x.type(kind, parent, false), Acts.UNKNOWN);
                CHECKS.due("shared, parent " + parent, x.type(kind, parent, true), Acts.UNKNOWN);
            }
        }
        CHECKS.due("without one", x.type(Acts.FULL_FACE, Acts.NONE, true), 1);
    }

    /** "STATE: SHARED, and the PARENT is not". */
    private static void sharedNeedsASharedParent() {
        ExtensionStarts x = Acts.classes(1);
        CHECKS.due("of one that is not", x.type(Acts.CLASS, 0, true), Acts.STATE);
        CHECKS.due("of none", x.type(Acts.CLASS, Acts.NONE, true), 1);
        CHECKS.due("of a shared one", x.type(Acts.CLASS, 1, true), 2);
        CHECKS.due("not shared, of a shared one", x.type(Acts.CLASS, 2, false), 3);
        CHECKS.due("of one below a shared one that is not", x.type(Acts.CLASS, 3, true), Acts.STATE);
        CHECKS.due("not shared, of one that is not", x.type(Acts.CLASS, 0, false), 4);
    }

    /** "of several the first one that the call tells": OUTSIDE, UNKNOWN, STATE, FULL. */
    private static void refusalsOfTypeInTheirOrder() {
        ExtensionStarts x = Acts.classes(16);
        CHECKS.due("outside", x.type(3, 16, true), Acts.OUTSIDE);
        CHECKS.due("unknown", x.type(Acts.CLASS, 16, true), Acts.UNKNOWN);
        CHECKS.due("unknown, of a face", x.type(Acts.FACE, 0, true), Acts.UNKNOWN);
        CHECKS.due("state", x.type(Acts.CLASS, 0, true), Acts.STATE);
        CHECKS.due("full", x.type(Acts.CLASS, 0, false), Acts.FULL);
    }

    /** Each of 16 CLASSES is the PARENT of the next: they start from the first on. */
    private static void longestChainOfParents() {
        ExtensionStarts x = new ExtensionStarts();
        for (int t = 0; t < 16; t++) {
            x.type(Acts.CLASS, t - 1, false);
            x.line(t, Acts.TELL, t, 0, 0);
        }
        x.field(0, 0, true, -999);
        CHECKS.due("a constant of the first", Acts.ask(x, 0, 15, 0), -999);
        CHECKS.due("made", Acts.make(x, 0, 15), 1);
        for (int t = 0; t < 16; t++) {
            CHECKS.startDue(x, t, t, 0, 0, 2);
            CHECKS.due("message", x.message(t), t);
        }
    }

    /** "both have ABOVE them up to 3 FACES"; "FULL: 3". */
    private static void threeFacesAboveAnyKind() {
        for (int kind : KINDS) {
            ExtensionStarts x = facesAndOneMore(kind, false);
            for (int f = 0; f < 3; f++) {
                CHECKS.due("face", x.face(4, f), f + 1);
            }
            CHECKS.due("a fourth", x.face(4, 3), Acts.FULL);
            CHECKS.due("a fourth again", x.face(4, 3), Acts.FULL);
            x.field(3, 0, true, 8);
            CHECKS.failureDue("it is not above", x, Acts.ask(x, 0, 4, 0), Acts.NOT_FOUND);
        }
    }

    private static ExtensionStarts facesAndOneMore(int kind, boolean shared) {
        ExtensionStarts x = new ExtensionStarts();
        for (int f = 0; f < 4; f++) {
            x.type(f % 2 == 0 ? Acts.FACE : Acts.FULL_FACE, Acts.NONE, false);
        }
        x.type(kind, Acts.NONE, shared);
        return x;
    }

    /** "UNKNOWN: TYPE, FACE (no FACE; not before it)". */
    private static void faceNamesNothing() {
        ExtensionStarts x = facesAndOneMore(Acts.CLASS, false);
        x.type(Acts.CLASS, Acts.NONE, false);
        for (int t : new int[] {Integer.MIN_VALUE, -1, 6, 15, 16, Integer.MAX_VALUE}) {
            CHECKS.due("type " + t, x.face(t, 0), Acts.UNKNOWN);
            CHECKS.due("face " + t, x.face(5, t), Acts.UNKNOWN);
        }
        CHECKS.due("a class", x.face(5, 4), Acts.UNKNOWN);
        CHECKS.due("itself, a class", x.face(5, 5), Acts.UNKNOWN);
        CHECKS.due("itself, a face", x.face(3, 3), Acts.UNKNOWN);
        CHECKS.due("the first has none before it", x.face(0, 0), Acts.UNKNOWN);
        CHECKS.due("the next one", x.face(2, 3), Acts.UNKNOWN);
        CHECKS.due("the one just before", x.face(3, 2), 1);
        CHECKS.due("the first one", x.face(5, 0), 1);
    }

    /** "it is above it already": not if it is so by way of another FACE or of the PARENT only. */
    private static void faceAboveAlready() {
        ExtensionStarts x = facesAndOneMore(Acts.CLASS, false);
        x.type(Acts.CLASS, 4, false);
        x.face(1, 0);
        x.face(4, 1);
        CHECKS.due("above the parent", x.face(5, 1), 1);
        CHECKS.due("above a face of it", x.face(5, 0), 2);
        CHECKS.due("the first again", x.face(5, 1), Acts.STATE);
        CHECKS.due("the latest again", x.face(5, 0), Acts.STATE);
        CHECKS.due("third", x.face(5, 3), 3);
    }

    /** "STATE: the TYPE is SHARED, and the FACE is not". */
    private static void sharedNeedsSharedFaces() {
        for (int kind : KINDS) {
            ExtensionStarts x = new ExtensionStarts();
            x.type(Acts.FACE, Acts.NONE, false);
            x.type(Acts.FULL_FACE, Acts.NONE, true);
            x.type(kind, Acts.NONE, true);
            x.type(kind, Acts.NONE, false);
            CHECKS.due("shared, face not", x.face(2, 0), Acts.STATE);
            CHECKS.due("both shared", x.face(2, 1), 1);
            CHECKS.due("both not", x.face(3, 0), 1);
            CHECKS.due("not shared, face is", x.face(3, 1), 2);
        }
    }

    /** UNKNOWN, STATE, FULL. */
    private static void refusalsOfFaceInTheirOrder() {
        ExtensionStarts x = new ExtensionStarts();
        for (int f = 0; f < 5; f++) {
            x.type(Acts.FACE, Acts.NONE, f != 0);
        }
        x.type(Acts.CLASS, Acts.NONE, true);
        for (int f = 1; f < 4; f++) {
            x.face(5, f);
        }
        CHECKS.due("unknown", x.face(5, 5), Acts.UNKNOWN);
        CHECKS.due("not shared", x.face(5, 0), Acts.STATE);
        CHECKS.due("above already", x.face(5, 1), Acts.STATE);
        CHECKS.due("full", x.face(5, 4), Acts.FULL);
    }

    /** 15 FACES, each above the next, and a CLASS: each FULL one starts after those above it, the others do not. */
    private static void longestChainOfFaces() {
        ExtensionStarts x = new ExtensionStarts();
        for (int t = 0; t < 15; t++) {
            x.type(t % 2 == 0 ? Acts.FULL_FACE : Acts.FACE, Acts.NONE, false);
            CHECKS.due("face", t == 0 ? 1 : x.face(t, t - 1), 1);
        }
        x.type(Acts.CLASS, Acts.NONE, false);
        x.face(15, 14);
        x.field(0, 4, true, 999);
        CHECKS.due("a constant of the first", Acts.ask(x, 0, 15, 4), 999);
        CHECKS.due("made", Acts.make(x, 0, 15), 1);
        CHECKS.due("eight full ones and the class", x.about(2), 9);
        for (int i = 0; i < 8; i++) {
            CHECKS.startDue(x, i, 2 * i, 0, 0, 2);
        }
        CHECKS.startDue(x, 8, 15, 0, 0, 2);
        CHECKS.due("one that is not full", x.told(0, 13, 0), Acts.ASLEEP);
    }
}
