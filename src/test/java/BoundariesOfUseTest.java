/** The boundary cases of promises 6 and 7: what a USE refuses, and in which order, what it answers at its edges. */
public final class BoundariesOfUseTest {
    private static final Checks CHECKS = new Checks("boundaries of use");
    private static final int LEAST = Integer.MIN_VALUE, MOST = Integer.MAX_VALUE;
    private static final int[] NO_SESSIONS = {LEAST, -1, 4, MOST};
    private static final int[] NO_FIELDS = {LEAST, -1, 5, MOST};
    private static final int[] NO_NUMBERS = {LEAST, -1000, 1000, MOST};

    public static void main(String[] args) {
        sessionNamesNothing();
        typeNamesNothing();
        howOutside();
        fieldOutside();
        fieldNotLookedAt();
        numberOutside();
        numberNotLookedAt();
        thingOfAFace();
        settingAConstantOrNothing();
        askingForNothingIsAFailure();
        refusalsInTheirOrder();
        sessionsAreApart();
        rowStartsNothing();
        brokenTypes();
        startingType();
        failureOfTheLatestUse();
        refusedUseIsNone();
        CHECKS.end();
    }

    /** TYPE 0 a CLASS with PLAIN FIELD 0 and CONSTANT FIELD 1, TYPE 1 a FACE, TYPE 2 a FULL FACE, both with these. */
    private static ExtensionStarts oneOfEachKind() {
        ExtensionStarts x = new ExtensionStarts();
        for (int kind = 0; kind < 3; kind++) {
            x.type(kind, Acts.NONE, false);
            x.field(kind, 0, false, 0);
            x.field(kind, 1, true, 6);
        }
        return x;
    }

    private static void nothingWasUsed(ExtensionStarts x) {
        CHECKS.due("no uses", x.about(1), 0);
        CHECKS.due("no starts", x.about(2), 0);
        CHECKS.due("no failure", x.failure(), 0);
        for (int s = 0; s < 4; s++) {
            CHECKS.due("nothing to be undone", x.undo(s), Acts.NONE);
        }
    }

    /** "UNKNOWN: SESSION": 0 .. 3. */
    private static void sessionNamesNothing() {
        ExtensionStarts x = oneOfEachKind();
        for (int s : NO_SESSIONS) {
            for (int how = -1; how <= 4; how++) {
                CHECKS.due("session " + s, x.use(s, 0, how, 0, 0), Acts.UNKNOWN);
            }
        }
        nothingWasUsed(x);
        for (int s = 0; s < 4; s++) {
            CHECKS.due("session " + s, Acts.make(x, s, 0), 1);
        }
    }

    /** "UNKNOWN: .. TYPE". */
    private static void typeNamesNothing() {
        ExtensionStarts x = oneOfEachKind();
        for (int t : new int[] {LEAST, -1, 3, 15, 16, MOST}) {
            for (int how = -1; how <= 4; how++) {
                CHECKS.due("type " + t, x.use(0, t, how, 0, 0), Acts.UNKNOWN);
            }
        }
        nothingWasUsed(x);
    }

    /** "OUTSIDE: how": 0 .. 3. */
    private static void howOutside() {
        ExtensionStarts x = oneOfEachKind();
        for (int how : new int[] {LEAST, -1, 4, MOST}) {
            CHECKS.due("how " + how, x.use(0, 0, how, 0, 0), Acts.OUTSIDE);
            CHECKS.due("how " + how + " of a face", x.use(0, 1, how, 0, 0), Acts.OUTSIDE);
        }
        nothingWasUsed(x);
    }

    /** "OUTSIDE: .. f (1, 2)". */
    private static void fieldOutside() {
        ExtensionStarts x = oneOfEachKind();
        for (int f : NO_FIELDS) {
            CHECKS.due("ask " + f, Acts.ask(x, 0, 0, f), Acts.OUTSIDE);
            CHECKS.due("set " + f, Acts.set(x, 0, 0, f, 0), Acts.OUTSIDE);
        }
        nothingWasUsed(x);
        x.field(0, 4, false, 0);
        CHECKS.due("set 4", Acts.set(x, 0, 0, 4, 3), 0);
        CHECKS.due("ask 4", Acts.ask(x, 0, 0, 4), 3);
        CHECKS.due("set 0", Acts.set(x, 0, 0, 0, 2), 0);
        CHECKS.due("ask 0", Acts.ask(x, 0, 0, 0), 2);
    }

    private static void fieldNotLookedAt() {
        ExtensionStarts x = oneOfEachKind();
        for (int f : NO_FIELDS) {
            CHECKS.due("row", x.use(0, 0, Acts.ROW, f, 0), 0);
            CHECKS.due("row of a face", x.use(0, 1, Acts.ROW, f, 0), 0);
            CHECKS.due("thing", x.use(0, 0, Acts.MAKING, f, 0), x.told(0, 0, 1));
        }
        CHECKS.due("all were uses", x.about(1), 12);
        CHECKS.due("things", x.told(0, 0, 1), 4);
    }

    /** "v (2: -999 .. 999)". */
    private static void numberOutside() {
        ExtensionStarts x = oneOfEachKind();
        for (int v : NO_NUMBERS) {
            CHECKS.due("v " + v, Acts.set(x, 0, 0, 0, v), Acts.OUTSIDE);
            CHECKS.due("v " + v + ", constant", Acts.set(x, 0, 0, 1, v), Acts.OUTSIDE);
            CHECKS.due("v " + v + ", no field", Acts.set(x, 0, 0, 2, v), Acts.OUTSIDE);
        }
        nothingWasUsed(x);
        CHECKS.due("-999", Acts.set(x, 0, 0, 0, -999), 0);
        CHECKS.due("999", Acts.set(x, 0, 0, 0, 999), -999);
        CHECKS.due("it", Acts.ask(x, 0, 0, 0), 999);
    }

    private static void numberNotLookedAt() {
        ExtensionStarts x = oneOfEachKind();
        for (int v : NO_NUMBERS) {
            CHECKS.due("ask", x.use(0, 0, Acts.ASKING, 1, v), 6);
            CHECKS.due("row", x.use(0, 0, Acts.ROW, 1, v), 0);
        }
        CHECKS.due("thing", x.use(0, 0, Acts.MAKING, 1, 1000), 1);
    }

    /** "STATE: a thing of a FACE", FULL or not. */
    private static void thingOfAFace() {
        ExtensionStarts x = oneOfEachKind();
        CHECKS.due("face", Acts.make(x, 0, 1), Acts.STATE);
        CHECKS.due("full face", Acts.make(x, 0, 2), Acts.STATE);
        CHECKS.due("face, f and v not looked at", x.use(0, 1, Acts.MAKING, 9, 5000), Acts.STATE);
        nothingWasUsed(x);
        CHECKS.due("asked of a face", Acts.ask(x, 0, 1, 0), 0);
        CHECKS.due("awake, a thing still not", x.told(0, 1, 0), Acts.AWAKE);
        CHECKS.due("face", Acts.make(x, 0, 1), Acts.STATE);
    }

    /** "2: the FIELD is CONSTANT, or there is none": of the HOME. */
    private static void settingAConstantOrNothing() {
        ExtensionStarts x = oneOfEachKind();
        CHECKS.due("constant", Acts.set(x, 0, 0, 1, 0), Acts.STATE);
        CHECKS.due("none", Acts.set(x, 0, 0, 4, 0), Acts.STATE);
        x.type(Acts.CLASS, 0, false);
        x.face(3, 1);
        CHECKS.due("constant of a face", Acts.set(x, 0, 3, 1, 0), Acts.STATE);
        x.field(1, 2, true, 5);
        x.field(0, 2, false, 0);
        CHECKS.due("constant of a face before the parent's", Acts.set(x, 0, 3, 2, 0), Acts.STATE);
        nothingWasUsed(x);
        x.field(3, 2, false, 0);
        CHECKS.due("its own before the face's", Acts.set(x, 0, 3, 2, 8), 0);
        CHECKS.due("it", x.peek(0, 3, 2), 8);
    }

    /** Asking is a USE and no refusal, if there is none. */
    private static void askingForNothingIsAFailure() {
        ExtensionStarts x = oneOfEachKind();
        CHECKS.failureDue("none", x, Acts.ask(x, 0, 0, 4), Acts.NOT_FOUND);
        CHECKS.failureDue("none of a face", x, Acts.ask(x, 0, 2, 4), Acts.NOT_FOUND);
        CHECKS.due("two uses", x.about(1), 2);
        CHECKS.due("no starts", x.about(2), 0);
        CHECKS.due("to be undone", x.undo(0), 0);
    }

    /** UNKNOWN, OUTSIDE, STATE. */
    private static void refusalsInTheirOrder() {
        ExtensionStarts x = oneOfEachKind();
        CHECKS.due("session and type", x.use(4, 3, 4, 5, 1000), Acts.UNKNOWN);
        CHECKS.due("session before how", x.use(4, 0, 4, 5, 1000), Acts.UNKNOWN);
        CHECKS.due("type before how", x.use(0, 3, 4, 5, 1000), Acts.UNKNOWN);
        CHECKS.due("session before state", x.use(-1, 1, Acts.MAKING, 0, 0), Acts.UNKNOWN);
        CHECKS.due("how before state", x.use(0, 1, 4, 0, 0), Acts.OUTSIDE);
        CHECKS.due("v before state", x.use(0, 1, Acts.SETTING, 1, 1000), Acts.OUTSIDE);
        CHECKS.due("f before state", x.use(0, 1, Acts.SETTING, 5, 0), Acts.OUTSIDE);
        nothingWasUsed(x);
    }

    /** "SESSIONS 0 .. 3": the first and the last are as the others. */
    private static void sessionsAreApart() {
        ExtensionStarts x = oneOfEachKind();
        for (int s = 0; s < 4; s++) {
            CHECKS.due("asleep", x.told(s, 0, 0), Acts.ASLEEP);
            CHECKS.due("set", Acts.set(x, s, 0, 0, 100 + s), 0);
            for (int i = 0; i <= s; i++) {
                CHECKS.due("things", Acts.make(x, s, 0), i + 1);
            }
        }
        for (int s = 0; s < 4; s++) {
            CHECKS.due("number", x.peek(s, 0, 0), 100 + s);
            CHECKS.due("things", x.told(s, 0, 1), s + 1);
            CHECKS.due("session of the start", x.start(s, 1), s);
        }
    }

    /** "3: a row of it: 0 (nothing is STARTED)", of a BROKEN one and of a FACE too. */
    private static void rowStartsNothing() {
        ExtensionStarts x = oneOfEachKind();
        for (int t = 0; t < 3; t++) {
            CHECKS.due("row", x.use(0, t, Acts.ROW, 0, 0), 0);
            CHECKS.due("asleep", x.told(0, t, 0), Acts.ASLEEP);
        }
        x.line(0, Acts.FAIL, 6, 0, 0);
        CHECKS.failureDue("error", x, Acts.make(x, 0, 0), 16);
        CHECKS.failureDue("row of a broken one", x, x.use(0, 0, Acts.ROW, 0, 0), 0);
        CHECKS.due("one start", x.about(2), 1);
    }

    /** "BROKEN: NOT FOUND"; no START is kept of it, and no STEP is taken. */
    private static void brokenTypes() {
        ExtensionStarts x = oneOfEachKind();
        for (int t = 0; t < 3; t++) {
            x.line(t, Acts.FAIL, t, 0, 0);
            CHECKS.failureDue("by its cause", x, Acts.ask(x, 0, t, 0), 10 + t);
            CHECKS.failureDue("asked later", x, Acts.ask(x, 0, t, 0), Acts.NOT_FOUND);
            CHECKS.failureDue("set later", x, Acts.set(x, 0, t, 0, 5), Acts.NOT_FOUND);
            CHECKS.due("a constant is told", Acts.ask(x, 0, t, 1), 6);
            CHECKS.due("no failure", x.failure(), 0);
            CHECKS.due("nothing was set", x.peek(0, t, 0), 0);
        }
        CHECKS.failureDue("made later", x, Acts.make(x, 0, 0), Acts.NOT_FOUND);
        CHECKS.due("no thing", x.told(0, 0, 1), 0);
        CHECKS.due("three starts", x.about(2), 3);
        CHECKS.due("three steps", x.about(4), 3);
        CHECKS.failureDue("by its cause elsewhere", x, Acts.make(x, 1, 0), 10);
    }

    /** "STARTING: nothing (what is asked is as it is by then)": the shortest ring. */
    private static void startingType() {
        ExtensionStarts x = Acts.classes(1);
        x.field(0, 1, false, 0);
        x.line(0, Acts.ADD, 1, 0, 0);
        x.line(0, Acts.PUT, 0, 7, 0);
        x.line(0, Acts.ADD, 1, 0, 0);
        x.line(0, Acts.TRY, 0, 0, 0);
        CHECKS.due("its thing after that of the line", Acts.make(x, 0, 0), 2);
        CHECKS.due("0, then 7", x.peek(0, 0, 1), 7);
        CHECKS.due("try had no failure", x.peek(0, 0, 0), 0);
        CHECKS.due("one start", x.about(2), 1);
    }

    /** "The FAILURE of the latest USE; 0: it had none, or there was none yet": over all SESSIONS. */
    private static void failureOfTheLatestUse() {
        ExtensionStarts x = Acts.classes(2);
        CHECKS.due("none yet", x.failure(), 0);
        x.line(1, Acts.FAIL, 0, 0, 0);
        Acts.make(x, 0, 1);
        CHECKS.due("the least one", x.failure(), 10);
        CHECKS.due("asked twice", x.failure(), 10);
        Acts.make(x, 3, 0);
        CHECKS.due("another session had none", x.failure(), 0);
        Acts.make(x, 0, 1);
        CHECKS.due("the greatest one", x.failure(), 18);
        x.steps(0, 5);
        x.undo(0);
        x.restart(0);
        CHECKS.due("other calls are no use", x.failure(), 18);
        CHECKS.due("clear()", x.clear(), 2);
        CHECKS.due("none yet", x.failure(), 0);
    }

    /** "Refusals .. change nothing": the latest USE is that before. */
    private static void refusedUseIsNone() {
        ExtensionStarts x = oneOfEachKind();
        x.line(0, Acts.FAIL, 4, 0, 0);
        Acts.make(x, 0, 0);
        CHECKS.due("state", Acts.make(x, 0, 1), Acts.STATE);
        CHECKS.due("outside", x.use(0, 0, 4, 0, 0), Acts.OUTSIDE);
        CHECKS.due("unknown", x.use(0, 3, 0, 0, 0), Acts.UNKNOWN);
        CHECKS.due("failure()", x.failure(), 14);
        CHECKS.due("one use", x.about(1), 1);
        Acts.ask(x, 0, 1, 0);
        CHECKS.due("the second is numbered 2", x.start(1, 3), 2);
    }
}
