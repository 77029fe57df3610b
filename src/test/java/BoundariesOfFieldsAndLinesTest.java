/** The boundary cases of promises 4 and 5: FIELDS 0 .. 4, numbers -999 .. 999, 8 LINES, and what a LINE may say. */
public final class BoundariesOfFieldsAndLinesTest {
    private static final Checks CHECKS = new Checks("boundaries of fields and lines");
    private static final int LEAST = Integer.MIN_VALUE, MOST = Integer.MAX_VALUE;
    private static final int[] NO_TYPES = {LEAST, -1, 2, 15, 16, MOST};
    private static final int[] NO_FIELDS = {LEAST, -1, 5, MOST};
    private static final int[] NO_NUMBERS = {LEAST, -1000, 1000, MOST};
    private static final int[] NO_NAMES = {LEAST, -1, 16, MOST};

    public static void main(String[] args) {
        fieldOfNoType();
        fieldOutside();
        constantOutside();
        plainDoesNotLookAtItsNumber();
        allFieldsOfAllKinds();
        plainFromConstantKeepsNumbers();
        plainFromConstantThatNeverWasPlain();
        plainFromConstantOfSharedType();
        lineOfNoType();
        actOutside();
        ownFieldOutside();
        putOutside();
        namesOutside();
        askedFieldOutside();
        failWaitTellOutside();
        unusedIsNotLookedAt();
        eightLinesOfAnyKind();
        refusalsOfLineInTheirOrder();
        lineAddedAfterTheStart();
        CHECKS.end();
    }

    /** "UNKNOWN: TYPE", before OUTSIDE. */
    private static void fieldOfNoType() {
        ExtensionStarts x = Acts.classes(2);
        for (int t : NO_TYPES) {
            CHECKS.due("type " + t, x.field(t, 0, true, 0), Acts.UNKNOWN);
            CHECKS.due("before f and v", x.field(t, 5, true, 1000), Acts.UNKNOWN);
        }
    }

    /** "OUTSIDE: f": 0 .. 4, of PLAIN ones too. */
    private static void fieldOutside() {
        ExtensionStarts x = Acts.classes(2);
        for (int f : NO_FIELDS) {
            CHECKS.due("plain " + f, x.field(1, f, false, 0), Acts.OUTSIDE);
            CHECKS.due("constant " + f, x.field(1, f, true, 0), Acts.OUTSIDE);
        }
        for (int f = 0; f < 5; f++) {
            CHECKS.due("plain " + f, x.field(1, f, false, 0), 0);
            CHECKS.due("constant " + f, x.field(1, f, true, 0), 1);
        }
    }

    /** "CONSTANT (a number, -999 .. 999)"; a refused one leaves the FIELD as it was. */
    private static void constantOutside() {
        ExtensionStarts x = Acts.classes(1);
        x.field(0, 1, true, 7);
        for (int v : NO_NUMBERS) {
            CHECKS.due("v " + v, x.field(0, 0, true, v), Acts.OUTSIDE);
            CHECKS.due("v " + v, x.field(0, 1, true, v), Acts.OUTSIDE);
            CHECKS.due("v " + v, x.field(0, 2, true, v), Acts.OUTSIDE);
        }
        CHECKS.due("still plain", x.peek(0, 0, 0), 0);
        CHECKS.due("still 7", Acts.ask(x, 0, 0, 1), 7);
        CHECKS.failureDue("still not there", x, Acts.ask(x, 0, 0, 2), Acts.NOT_FOUND);
        for (int v : new int[] {-999, 999}) {
            CHECKS.due("v " + v, x.field(0, 1, true, v), 1);
            CHECKS.due("asked", Acts.ask(x, 0, 0, 1), v);
        }
    }

    /** "PLAIN (v is not looked at)". */
    private static void plainDoesNotLookAtItsNumber() {
        ExtensionStarts x = Acts.classes(1);
        for (int v : NO_NUMBERS) {
            CHECKS.due("v " + v, x.field(0, 3, false, v), 0);
            CHECKS.due("it is 0", x.peek(0, 0, 3), 0);
        }
    }

    /** FIELDS may be of FACES as of CLASSES. */
    private static void allFieldsOfAllKinds() {
        ExtensionStarts x = new ExtensionStarts();
        for (int kind = 0; kind < 3; kind++) {
            x.type(kind, Acts.NONE, false);
            for (int f = 0; f < 5; f++) {
                CHECKS.failureDue("not there at first", x, Acts.ask(x, 0, kind, f), Acts.NOT_FOUND);
                x.field(kind, f, false, 0);
                CHECKS.due("set", Acts.set(x, 0, kind, f, 10 * kind + f + 1), 0);
            }
        }
        for (int kind = 0; kind < 3; kind++) {
            for (int f = 0; f < 5; f++) {
                CHECKS.due("asked", Acts.ask(x, 0, kind, f), 10 * kind + f + 1);
            }
        }
    }

    /** "PLAIN from CONSTANT: its numbers are those that it had when it was PLAIN". */
    private static void plainFromConstantKeepsNumbers() {
        ExtensionStarts x = Acts.classes(1);
        x.line(0, Acts.PUT, 0, -1, 0);
        for (int s = 0; s < 3; s++) {
            Acts.set(x, s, 0, 0, 100 + s);
        }
        x.field(0, 0, true, 5);
        x.field(0, 0, true, 6);
        CHECKS.failureDue("a line finds a constant", x, Acts.make(x, 3, 0), 12);
        x.field(0, 0, false, 9);
        for (int s = 0; s < 3; s++) {
            CHECKS.due("session " + s, x.peek(s, 0, 0), 100 + s);
            CHECKS.due("counts again", x.told(s, 0, 2), 1);
        }
        CHECKS.due("session 3", x.peek(3, 0, 0), 0);
    }

    /** "or 0". */
    private static void plainFromConstantThatNeverWasPlain() {
        ExtensionStarts x = Acts.classes(1);
        x.field(0, 4, true, 5);
        CHECKS.due("asked", Acts.ask(x, 0, 0, 4), 5);
        x.field(0, 4, false, 5);
        for (int s = 0; s < 4; s++) {
            CHECKS.due("session " + s, x.peek(s, 0, 4), 0);
        }
        CHECKS.due("asked", Acts.ask(x, 0, 0, 4), 0);
    }

    private static void plainFromConstantOfSharedType() {
        ExtensionStarts x = new ExtensionStarts();
        x.type(Acts.CLASS, Acts.NONE, true);
        x.field(0, 0, false, 0);
        Acts.set(x, 1, 0, 0, 44);
        x.field(0, 0, true, 5);
        x.restart(1);
        x.field(0, 0, false, 0);
        CHECKS.due("one for all sessions", x.peek(3, 0, 0), 44);
        CHECKS.due("restart leaves it", x.peek(1, 0, 0), 44);
    }

    private static void lineOfNoType() {
        ExtensionStarts x = Acts.classes(2);
        for (int t : NO_TYPES) {
            CHECKS.due("type " + t, x.line(t, Acts.TELL, 0, 0, 0), Acts.UNKNOWN);
            CHECKS.due("before act", x.line(t, 7, 0, 0, 0), Acts.UNKNOWN);
            CHECKS.due("before a", x.line(t, Acts.PUT, 5, 0, 0), Acts.UNKNOWN);
        }
    }

    private static void outsideDue(int act, int a, int b, int c) {
        ExtensionStarts x = Acts.classes(1);
        String call = "line(0, " + act + ", " + a + ", " + b + ", " + c + ")";
        CHECKS.due(call, x.line(0, act, a, b, c), Acts.OUTSIDE);
        CHECKS.due("no line came by " + call, x.line(0, Acts.TELL, 0, 0, 0), 1);
    }

    private static void takenDue(int act, int a, int b, int c) {
        ExtensionStarts x = Acts.classes(1);
        CHECKS.due("line(0, " + act + ", " + a + ", " + b + ", " + c + ")", x.line(0, act, a, b, c), 1);
    }

    /** "act 0 .. 6". */
    private static void actOutside() {
        for (int act : new int[] {LEAST, -1, 7, MOST}) {
            outsideDue(act, 0, 0, 0);
        }
        for (int act = 0; act < 7; act++) {
            takenDue(act, 0, 0, 0);
        }
    }

    /** "a FIELD 0 .. 4". */
    private static void ownFieldOutside() {
        for (int act : new int[] {Acts.PUT, Acts.ADD, Acts.TRY}) {
            for (int a : NO_FIELDS) {
                outsideDue(act, a, 0, 0);
            }
            takenDue(act, 0, 0, 0);
            takenDue(act, 4, 0, 0);
        }
    }

    /** "b of PUT -999 .. 999". */
    private static void putOutside() {
        for (int b : NO_NUMBERS) {
            outsideDue(Acts.PUT, 0, b, 0);
        }
        takenDue(Acts.PUT, 0, -999, 0);
        takenDue(Acts.PUT, 0, 999, 0);
    }

    /** "a TYPE that a LINE names 0 .. 15 (it need not be there)". */
    private static void namesOutside() {
        for (int name : NO_NAMES) {
            outsideDue(Acts.ADD, 0, name, 0);
            outsideDue(Acts.MAKE, name, 0, 0);
            outsideDue(Acts.TRY, 0, name, 0);
        }
        for (int name = 0; name < 16; name++) {
            takenDue(Acts.ADD, 0, name, 0);
            takenDue(Acts.MAKE, name, 0, 0);
            takenDue(Acts.TRY, 0, name, 0);
        }
    }

    /** "a FIELD 0 .. 4": the one that ADD asks for, too. */
    private static void askedFieldOutside() {
        for (int c : NO_FIELDS) {
            outsideDue(Acts.ADD, 0, 0, c);
        }
        takenDue(Acts.ADD, 0, 0, 0);
        takenDue(Acts.ADD, 0, 0, 4);
    }

    /** "a of FAIL 0 .. 6, WAIT 0 .. 1000, TELL -999 .. 999". */
    private static void failWaitTellOutside() {
        int[][] outside = {
            {Acts.FAIL, LEAST}, {Acts.FAIL, -1}, {Acts.FAIL, 7}, {Acts.FAIL, MOST},
            {Acts.WAIT, LEAST}, {Acts.WAIT, -1}, {Acts.WAIT, 1001}, {Acts.WAIT, MOST},
            {Acts.TELL, LEAST}, {Acts.TELL, -1000}, {Acts.TELL, 1000}, {Acts.TELL, MOST},
        };
        for (int[] l : outside) {
            outsideDue(l[0], l[1], 0, 0);
        }
        int[][] taken = {
            {Acts.FAIL, 0}, {Acts.FAIL, 6}, {Acts.WAIT, 0}, {Acts.WAIT, 1000}, {Acts.TELL, -999}, {Acts.TELL, 999},
        };
        for (int[] l : taken) {
            takenDue(l[0], l[1], 0, 0);
        }
    }

    /** "what an ACT does not have is not looked at". */
    private static void unusedIsNotLookedAt() {
        for (int any : new int[] {LEAST, -1000, -1, 5, 16, 1001, MOST}) {
            takenDue(Acts.PUT, 4, 0, any);
            takenDue(Acts.MAKE, 15, any, any);
            takenDue(Acts.FAIL, 6, any, any);
            takenDue(Acts.WAIT, 1000, any, any);
            takenDue(Acts.TELL, 999, any, any);
            takenDue(Acts.TRY, 4, 15, any);
        }
    }

    /** "LINES, 8 at most of a TYPE"; "FULL". */
    private static void eightLinesOfAnyKind() {
        ExtensionStarts x = new ExtensionStarts();
        for (int kind = 0; kind < 3; kind++) {
            x.type(kind, Acts.NONE, false);
            x.field(kind, 0, false, 0);
            for (int i = 1; i <= 8; i++) {
                CHECKS.due("line", x.line(kind, Acts.TELL, 10 * kind + i, 0, 0), i);
            }
            CHECKS.due("9th", x.line(kind, Acts.TELL, 0, 0, 0), Acts.FULL);
            CHECKS.due("9th of another act", x.line(kind, Acts.FAIL, 0, 0, 0), Acts.FULL);
            CHECKS.due("asked", Acts.ask(x, 0, kind, 0), 0);
            CHECKS.due("eight were done", x.about(3), 8 * (kind + 1));
        }
        CHECKS.due("the last of the first", x.message(7), 8);
        CHECKS.due("the first of the last", x.message(16), 21);
    }

    /** UNKNOWN, OUTSIDE, FULL. */
    private static void refusalsOfLineInTheirOrder() {
        ExtensionStarts x = Acts.classes(1);
        for (int i = 0; i < 8; i++) {
            x.line(0, Acts.TELL, 0, 0, 0);
        }
        CHECKS.due("unknown", x.line(1, 7, 0, 0, 0), Acts.UNKNOWN);
        CHECKS.due("act", x.line(0, 7, 0, 0, 0), Acts.OUTSIDE);
        CHECKS.due("a", x.line(0, Acts.PUT, 5, 0, 0), Acts.OUTSIDE);
        CHECKS.due("b", x.line(0, Acts.PUT, 0, 1000, 0), Acts.OUTSIDE);
        CHECKS.due("c", x.line(0, Acts.ADD, 0, 0, 5), Acts.OUTSIDE);
        CHECKS.due("full", x.line(0, Acts.ADD, 0, 0, 4), Acts.FULL);
    }

    /** An AWAKE TYPE's START is over; the LINE is for the next one. */
    private static void lineAddedAfterTheStart() {
        ExtensionStarts x = Acts.classes(1);
        Acts.make(x, 0, 0);
        CHECKS.due("line", x.line(0, Acts.TELL, 3, 0, 0), 1);
        Acts.make(x, 0, 0);
        CHECKS.due("not done", x.about(3), 0);
        Acts.make(x, 1, 0);
        CHECKS.due("done in another session", x.about(3), 1);
        x.restart(0);
        Acts.make(x, 0, 0);
        CHECKS.due("done after restart", x.about(3), 2);
    }
}
