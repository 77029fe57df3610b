/** The boundary cases of promise 12 and of what LINES take: 0 .. 100000 STEPS, WAIT 0 .. 1000, just enough, one less. */
public final class BoundariesOfStepsTest {
    private static final Checks CHECKS = new Checks("boundaries of steps");
    private static final int LEAST = Integer.MIN_VALUE, MOST = Integer.MAX_VALUE;

    public static void main(String[] args) {
        stepsUnknown();
        stepsOutside();
        stepsOfEachSession();
        waitTakesOneAndSoMany();
        oneStepForEachAct();
        oneStepLess();
        tiredTakesNone();
        noneLeft();
        whatIsDoneBeforeTiredStays();
        tiredGoesOnOverTypes();
        tiredOfSharedTypes();
        mostSteps();
        CHECKS.end();
    }

    /** "UNKNOWN", before OUTSIDE. */
    private static void stepsUnknown() {
        ExtensionStarts x = new ExtensionStarts();
        for (int s : new int[] {LEAST, -1, 4, MOST}) {
            for (int n : new int[] {-1, 0, 100000, 100001}) {
                CHECKS.due("session " + s, x.steps(s, n), Acts.UNKNOWN);
            }
        }
    }

    /** "OUTSIDE: 0 .. 100000"; a refused call leaves what it had. */
    private static void stepsOutside() {
        ExtensionStarts x = new ExtensionStarts();
        for (int n : new int[] {LEAST, -1, 100001, MOST}) {
            CHECKS.due("n " + n, x.steps(0, n), Acts.OUTSIDE);
        }
        CHECKS.due("0", x.steps(0, 0), 1000);
        CHECKS.due("100000", x.steps(0, 100000), 0);
        CHECKS.due("n -1", x.steps(0, -1), Acts.OUTSIDE);
        CHECKS.due("100000 again", x.steps(0, 100000), 100000);
        CHECKS.due("1", x.steps(0, 1), 100000);
    }

    private static void stepsOfEachSession() {
        ExtensionStarts x = new ExtensionStarts();
        for (int s = 0; s < 4; s++) {
            CHECKS.due("first", x.steps(s, 10 + s), 1000);
        }
        for (int s = 0; s < 4; s++) {
            CHECKS.due("its own", x.steps(s, 0), 10 + s);
        }
    }

    /** "WAIT a: 1 and a", from 0 to 1000. */
    private static void waitTakesOneAndSoMany() {
        for (int a : new int[] {0, 1, 999, 1000}) {
            ExtensionStarts x = Acts.classes(1);
            x.line(0, Acts.WAIT, a, 0, 0);
            x.steps(0, a + 1);
            CHECKS.due("just enough for " + a, Acts.make(x, 0, 0), 1);
            CHECKS.due("none is left", x.steps(0, 0), 0);
            CHECKS.due("taken", x.about(4), a + 1);
            x.steps(1, a);
            CHECKS.failureDue("one less for " + a, x, Acts.make(x, 1, 0), Acts.TIRED);
            CHECKS.due("all are left", x.steps(1, 0), a);
            CHECKS.due("taken", x.about(4), a + 1);
        }
    }

    /** "its LINES are done, in order, each for 1 STEP": the a, b, c of the others take none. */
    private static void oneStepForEachAct() {
        for (int act = 0; act < 7; act++) {
            ExtensionStarts x = Acts.classes(2);
            x.field(0, 3, false, 0);
            x.line(0, act, act == Acts.WAIT ? 0 : act == Acts.MAKE ? 1 : 3, act == Acts.PUT ? 999 : 1, 0);
            x.steps(0, 1);
            Acts.make(x, 0, 0);
            CHECKS.due("act " + act, x.steps(0, 0), 0);
            CHECKS.due("is done", x.failure(), act == Acts.FAIL ? 13 : 0);
            CHECKS.due("taken", x.about(4), 1);
        }
    }

    /** With 7 STEPS for 8 LINES the last one is not done. */
    private static void oneStepLess() {
        ExtensionStarts x = Acts.classes(1);
        for (int i = 1; i <= 8; i++) {
            x.line(0, Acts.PUT, 0, i, 0);
        }
        x.steps(0, 7);
        CHECKS.failureDue("tired", x, Acts.make(x, 0, 0), Acts.TIRED);
        CHECKS.due("seven are done", x.peek(0, 0, 0), 7);
        CHECKS.due("seven writes", x.undo(0), 7);
        CHECKS.due("broken", x.told(0, 0, 0), Acts.BROKEN);
        x.steps(1, 8);
        CHECKS.due("enough", Acts.make(x, 1, 0), 1);
        CHECKS.due("eight are done", x.peek(1, 0, 0), 8);
    }

    /** "TIRED, none goes": what is left after it is enough for a LINE of another TYPE. */
    private static void tiredTakesNone() {
        ExtensionStarts x = Acts.classes(2);
        x.line(0, Acts.WAIT, 3, 0, 0);
        x.line(1, Acts.WAIT, 2, 0, 0);
        x.steps(0, 3);
        CHECKS.failureDue("four", x, Acts.make(x, 0, 0), Acts.TIRED);
        CHECKS.due("three", Acts.make(x, 0, 1), 1);
        CHECKS.due("none is left", x.steps(0, 0), 0);
    }

    /** With 0 STEPS a TYPE without LINES can start, and what is AWAKE can be used. */
    private static void noneLeft() {
        ExtensionStarts x = Acts.classes(3);
        x.line(1, Acts.PUT, 0, 4, 0);
        x.line(2, Acts.WAIT, 0, 0, 0);
        Acts.make(x, 0, 1);
        x.steps(0, 0);
        CHECKS.due("without lines", Acts.make(x, 0, 0), 1);
        CHECKS.due("awake", Acts.make(x, 0, 1), 2);
        CHECKS.due("asked", Acts.ask(x, 0, 1, 0), 4);
        CHECKS.due("set", Acts.set(x, 0, 1, 0, 5), 4);
        CHECKS.failureDue("one line", x, Acts.make(x, 0, 2), Acts.TIRED);
        CHECKS.failureDue("later", x, Acts.make(x, 0, 2), Acts.NOT_FOUND);
    }

    private static void whatIsDoneBeforeTiredStays() {
        ExtensionStarts x = Acts.classes(2);
        x.line(0, Acts.TELL, 1, 0, 0);
        x.line(0, Acts.MAKE, 1, 0, 0);
        x.line(0, Acts.WAIT, 1, 0, 0);
        x.steps(0, 3);
        CHECKS.failureDue("tired", x, Acts.make(x, 0, 0), Acts.TIRED);
        CHECKS.due("message", x.message(0), 1);
        CHECKS.due("thing", x.told(0, 1, 1), 1);
        CHECKS.due("one is left", x.steps(0, 0), 1);
        CHECKS.due("in all", x.about(4), 2);
    }

    /** The FAILURE goes on to what had it STARTED, and a TRY takes it. */
    private static void tiredGoesOnOverTypes() {
        ExtensionStarts x = Acts.classes(1);
        x.type(Acts.CLASS, 0, false);
        x.type(Acts.CLASS, Acts.NONE, false);
        x.field(2, 0, false, 0);
        x.line(0, Acts.WAIT, 10, 0, 0);
        x.line(2, Acts.TRY, 0, 1, 0);
        x.steps(0, 11);
        CHECKS.due("made", Acts.make(x, 0, 2), 1);
        CHECKS.due("taken by the try", x.peek(0, 2, 0), Acts.TIRED);
        CHECKS.startDue(x, 0, 0, 0, Acts.TIRED, 1);
        CHECKS.startDue(x, 1, 1, 0, Acts.TIRED, 1);
        CHECKS.startDue(x, 2, 2, 0, 0, 1);
        CHECKS.due("ten are left", x.steps(0, 0), 10);
    }

    /** A SHARED TYPE takes the STEPS of the SESSION in which it starts, and is BROKEN for all if these are too few. */
    private static void tiredOfSharedTypes() {
        ExtensionStarts x = new ExtensionStarts();
        x.type(Acts.CLASS, Acts.NONE, true);
        x.line(0, Acts.WAIT, 1, 0, 0);
        x.steps(2, 1);
        CHECKS.failureDue("tired", x, Acts.make(x, 2, 0), Acts.TIRED);
        CHECKS.failureDue("though it has 1000", x, Acts.make(x, 0, 0), Acts.NOT_FOUND);
        CHECKS.due("all are left", x.steps(0, 0), 1000);
        CHECKS.due("broken", x.told(3, 0, 0), Acts.BROKEN);
    }

    /** 100000 STEPS, taken to the last one: 12 CLASSES of 8008 each, and one of 3904. */
    private static void mostSteps() {
        ExtensionStarts x = Acts.classes(13);
        for (int t = 0; t < 12; t++) {
            for (int i = 0; i < 8; i++) {
                x.line(t, Acts.WAIT, 1000, 0, 0);
            }
        }
        for (int i = 0; i < 3; i++) {
            x.line(12, Acts.WAIT, 1000, 0, 0);
        }
        x.line(12, Acts.WAIT, 900, 0, 0);
        x.steps(3, 100000);
        for (int t = 0; t < 13; t++) {
            CHECKS.due("made", Acts.make(x, 3, t), 1);
        }
        CHECKS.due("none is left", x.steps(3, 0), 0);
        CHECKS.due("in all", x.about(4), 100000);
    }
}
