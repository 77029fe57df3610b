/** The boundary cases of promises 10 and 11: 150 STARTS and 100 MESSAGES, then no more; what is not there. */
public final class BoundariesOfKeptTest {
    private static final Checks CHECKS = new Checks("boundaries of what is kept");
    private static final int LEAST = Integer.MIN_VALUE, MOST = Integer.MAX_VALUE;

    public static void main(String[] args) {
        noStartYet();
        startOutside();
        startNoneBeforeOutside();
        startThatIsNotOverIsNotKept();
        startsAreKeptTo150();
        startsFullInTheMidstOfAUse();
        brokenStartsCountToo();
        numberOfUseIsOverAllSessions();
        noMessageYet();
        messagesAreKeptTo100();
        messagesFullInTheMidstOfAUse();
        clearMakesRoom();
        CHECKS.end();
    }

    /** "NONE: no such START". */
    private static void noStartYet() {
        ExtensionStarts x = Acts.classes(1);
        for (int i : new int[] {LEAST, -1, 0, 1, 149, 150, MOST}) {
            for (int what = 0; what < 4; what++) {
                CHECKS.due("start " + i, x.start(i, what), Acts.NONE);
            }
        }
    }

    private static void startOutside() {
        ExtensionStarts x = Acts.classes(1);
        Acts.make(x, 0, 0);
        for (int what : new int[] {LEAST, -1, 4, MOST}) {
            CHECKS.due("what " + what, x.start(0, what), Acts.OUTSIDE);
        }
        CHECKS.startDue(x, 0, 0, 0, 0, 1);
        for (int i : new int[] {LEAST, -1, 1, MOST}) {
            CHECKS.due("start " + i, x.start(i, 0), Acts.NONE);
        }
    }

    /** "of several the first one that the call tells". */
    private static void startNoneBeforeOutside() {
        ExtensionStarts x = Acts.classes(1);
        CHECKS.due("none", x.start(0, 4), Acts.NONE);
        Acts.make(x, 0, 0);
        CHECKS.due("none", x.start(1, -1), Acts.NONE);
        CHECKS.due("none", x.start(-1, 4), Acts.NONE);
        CHECKS.due("outside", x.start(0, 4), Acts.OUTSIDE);
    }

    /** "STARTS are kept as they end": what was STARTED last ends first. */
    private static void startThatIsNotOverIsNotKept() {
        ExtensionStarts x = Acts.classes(2);
        x.line(0, Acts.MAKE, 1, 0, 0);
        x.line(0, Acts.FAIL, 6, 0, 0);
        Acts.make(x, 0, 0);
        CHECKS.startDue(x, 0, 1, 0, 0, 1);
        CHECKS.startDue(x, 1, 0, 0, 16, 1);
        CHECKS.due("two", x.about(2), 2);
    }

    private static ExtensionStarts withStarts(int count) {
        ExtensionStarts x = Acts.classes(1);
        for (int i = 1; i <= count; i++) {
            Acts.make(x, i % 4, 0);
            x.restart(i % 4);
        }
        return x;
    }

    /** "150 at most (then no more)". */
    private static void startsAreKeptTo150() {
        ExtensionStarts x = withStarts(149);
        CHECKS.due("149", x.about(2), 149);
        CHECKS.due("no 150th", x.start(149, 0), Acts.NONE);
        CHECKS.due("made", Acts.make(x, 0, 0), 1);
        CHECKS.due("150", x.about(2), 150);
        CHECKS.startDue(x, 149, 0, 0, 0, 150);
        CHECKS.due("made", Acts.make(x, 1, 0), 1);
        CHECKS.due("still 150", x.about(2), 150);
        CHECKS.due("no 151st", x.start(150, 0), Acts.NONE);
        CHECKS.due("no 151st before outside", x.start(150, 4), Acts.NONE);
        CHECKS.startDue(x, 0, 0, 1, 0, 1);
        CHECKS.startDue(x, 149, 0, 0, 0, 150);
        CHECKS.due("it is awake all the same", x.told(1, 0, 0), Acts.AWAKE);
        CHECKS.due("uses go on", x.about(1), 151);
    }

    /** The first of two STARTS of a USE is the 150th: it is kept, and the other, that of the TYPE used, is not. */
    private static void startsFullInTheMidstOfAUse() {
        ExtensionStarts x = withStarts(149);
        x.type(Acts.CLASS, 0, false);
        CHECKS.due("made", Acts.make(x, 2, 1), 1);
        CHECKS.startDue(x, 149, 0, 2, 0, 150);
        CHECKS.due("150", x.about(2), 150);
        CHECKS.due("both are awake", x.restart(2), 2);
    }

    private static void brokenStartsCountToo() {
        ExtensionStarts x = withStarts(149);
        x.line(0, Acts.FAIL, 3, 0, 0);
        CHECKS.failureDue("150th", x, Acts.make(x, 0, 0), 13);
        CHECKS.startDue(x, 149, 0, 0, 13, 150);
        CHECKS.failureDue("151st", x, Acts.make(x, 1, 0), 13);
        CHECKS.due("150", x.about(2), 150);
        CHECKS.due("broken all the same", x.told(1, 0, 0), Acts.BROKEN);
        CHECKS.failureDue("not found", x, Acts.make(x, 1, 0), Acts.NOT_FOUND);
    }

    /** "the first one is 1, over all SESSIONS": undo and restart do not count back. */
    private static void numberOfUseIsOverAllSessions() {
        ExtensionStarts x = Acts.classes(2);
        Acts.make(x, 3, 0);
        x.undo(3);
        x.restart(3);
        x.use(9, 0, 0, 0, 0);
        Acts.make(x, 1, 0);
        x.use(2, 0, Acts.ROW, 0, 0);
        Acts.make(x, 0, 1);
        CHECKS.startDue(x, 0, 0, 3, 0, 1);
        CHECKS.startDue(x, 1, 0, 1, 0, 2);
        CHECKS.startDue(x, 2, 1, 0, 0, 4);
    }

    /** "ArrayIndexOutOfBoundsException: there is none". */
    private static void noMessageYet() {
        ExtensionStarts x = Acts.classes(1);
        for (int i : new int[] {LEAST, -1, 0, 1, 99, 100, MOST}) {
            CHECKS.noMessage(x, i);
        }
        x.line(0, Acts.TELL, -999, 0, 0);
        Acts.make(x, 0, 0);
        CHECKS.due("one", x.message(0), -999);
        for (int i : new int[] {LEAST, -1, 1, 99, 100, MOST}) {
            CHECKS.noMessage(x, i);
        }
    }

    /** A TYPE that tells, STARTED so many times. */
    private static ExtensionStarts withMessages(int count) {
        ExtensionStarts x = Acts.classes(1);
        x.line(0, Acts.TELL, 5, 0, 0);
        for (int i = 0; i < count; i++) {
            Acts.make(x, 0, 0);
            x.restart(0);
        }
        return x;
    }

    /** "MESSAGES 100 likewise". */
    private static void messagesAreKeptTo100() {
        ExtensionStarts x = withMessages(99);
        CHECKS.due("99", x.about(3), 99);
        CHECKS.noMessage(x, 99);
        x.type(Acts.CLASS, Acts.NONE, false);
        x.line(1, Acts.TELL, 999, 0, 0);
        Acts.make(x, 3, 1);
        CHECKS.due("100", x.about(3), 100);
        CHECKS.due("100th", x.message(99), 999);
        Acts.make(x, 3, 0);
        CHECKS.due("still 100", x.about(3), 100);
        CHECKS.due("100th", x.message(99), 999);
        CHECKS.due("first", x.message(0), 5);
        CHECKS.noMessage(x, 100);
        CHECKS.due("it is awake all the same", x.told(3, 0, 0), Acts.AWAKE);
    }

    private static void messagesFullInTheMidstOfAUse() {
        ExtensionStarts x = withMessages(99);
        x.type(Acts.CLASS, Acts.NONE, false);
        x.field(1, 0, false, 0);
        x.line(1, Acts.TELL, 1, 0, 0);
        x.line(1, Acts.TELL, 2, 0, 0);
        x.line(1, Acts.PUT, 0, 3, 0);
        CHECKS.due("asked", Acts.ask(x, 0, 1, 0), 3);
        CHECKS.due("100th", x.message(99), 1);
        CHECKS.noMessage(x, 100);
        CHECKS.due("a message that is not kept takes its step", x.about(4), 102);
    }

    private static void clearMakesRoom() {
        ExtensionStarts x = withStarts(151);
        x.clear();
        x.type(Acts.CLASS, Acts.NONE, false);
        x.line(0, Acts.TELL, 8, 0, 0);
        Acts.make(x, 2, 0);
        CHECKS.startDue(x, 0, 0, 2, 0, 1);
        CHECKS.due("one", x.about(2), 1);
        CHECKS.due("message", x.message(0), 8);
        CHECKS.noMessage(x, 1);
    }
}
