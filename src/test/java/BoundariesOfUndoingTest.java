/** The boundary cases of promises 13, 14 and 16: nothing to be undone, nothing to forget, and all. */
public final class BoundariesOfUndoingTest {
    private static final Checks CHECKS = new Checks("boundaries of undoing");
    private static final int[] NO_SESSIONS = {Integer.MIN_VALUE, -1, 4, Integer.MAX_VALUE};

    public static void main(String[] args) {
        unknownSessions();
        noneToBeUndone();
        undoOfEachKindOfUse();
        undoOfAUseThatFailed();
        undoTakesOnlyItsOwnThing();
        undoCountsWritesOfAllTypes();
        undoneTwice();
        undoAfterUndo();
        undoInEachSession();
        noneSinceRestart();
        restartOfASessionAsAtFirst();
        restartCountsAllThatAreNotShared();
        restartForgetsNumbersBehindConstants();
        restartLeavesWhatIsShared();
        clearOfNothing();
        clearOfAll();
        CHECKS.end();
    }

    private static void unknownSessions() {
        ExtensionStarts x = Acts.classes(1);
        Acts.make(x, 0, 0);
        Acts.make(x, 3, 0);
        for (int s : NO_SESSIONS) {
            CHECKS.due("undo " + s, x.undo(s), Acts.UNKNOWN);
            CHECKS.due("restart " + s, x.restart(s), Acts.UNKNOWN);
        }
        CHECKS.due("thing", x.told(0, 0, 1), 1);
        CHECKS.due("thing", x.told(3, 0, 1), 1);
    }

    /** "NONE: there is none". */
    private static void noneToBeUndone() {
        ExtensionStarts x = Acts.classes(1);
        Acts.make(x, 1, 0);
        x.use(2, 0, 4, 0, 0);
        for (int s = 0; s < 4; s++) {
            CHECKS.due("undo " + s, x.undo(s), s == 1 ? 0 : Acts.NONE);
            CHECKS.due("undo " + s, x.undo(s), Acts.NONE);
        }
    }

    /** "how many times FIELDS were written in it (LINES and 2), 0 too". */
    private static void undoOfEachKindOfUse() {
        ExtensionStarts x = Acts.classes(1);
        x.field(0, 1, true, 4);
        x.use(0, 0, Acts.ROW, 0, 0);
        Acts.ask(x, 0, 0, 1);
        Acts.make(x, 0, 0);
        Acts.ask(x, 0, 0, 0);
        Acts.set(x, 0, 0, 0, 0);
        CHECKS.due("set, the same number", x.undo(0), 1);
        CHECKS.due("asked", x.undo(0), 0);
        CHECKS.due("thing", x.told(0, 0, 1), 1);
        CHECKS.due("made", x.undo(0), 0);
        CHECKS.due("no thing", x.told(0, 0, 1), 0);
        CHECKS.due("a constant", x.undo(0), 0);
        CHECKS.due("a row", x.undo(0), 0);
        CHECKS.due("none", x.undo(0), Acts.NONE);
    }

    /** It MADE nothing itself, but it may have written. */
    private static void undoOfAUseThatFailed() {
        ExtensionStarts x = Acts.classes(2);
        x.line(0, Acts.MAKE, 0, 0, 0);
        x.line(0, Acts.PUT, 0, 5, 0);
        x.line(0, Acts.FAIL, 0, 0, 0);
        CHECKS.failureDue("made", x, Acts.make(x, 0, 0), 10);
        CHECKS.failureDue("set", x, Acts.set(x, 0, 0, 0, 6), Acts.NOT_FOUND);
        CHECKS.due("the thing of the line", x.told(0, 0, 1), 1);
        CHECKS.due("set", x.undo(0), 0);
        CHECKS.due("made", x.undo(0), 1);
        CHECKS.due("the thing of the line stays", x.told(0, 0, 1), 1);
        CHECKS.due("the number stays", x.peek(0, 0, 0), 5);
        CHECKS.due("it stays broken", x.told(0, 0, 0), Acts.BROKEN);
        CHECKS.due("the failure stays", x.failure(), Acts.NOT_FOUND);
    }

    /** "a thing that it MADE itself is gone": not those that LINES made. */
    private static void undoTakesOnlyItsOwnThing() {
        ExtensionStarts x = Acts.classes(2);
        for (int i = 0; i < 4; i++) {
            x.line(0, Acts.MAKE, 0, 0, 0);
            x.line(0, Acts.MAKE, 1, 0, 0);
        }
        CHECKS.due("made", Acts.make(x, 0, 0), 5);
        CHECKS.due("undone", x.undo(0), 0);
        CHECKS.due("of it", x.told(0, 0, 1), 4);
        CHECKS.due("of the other", x.told(0, 1, 1), 4);
        CHECKS.due("no more", x.undo(0), Acts.NONE);
        CHECKS.due("of it", x.told(0, 0, 1), 4);
        CHECKS.due("the next one", Acts.make(x, 0, 0), 5);
    }

    /** 16 TYPES, each with 8 LINES, start one another: the last writes 8 times, the others 7 times beside their MAKE. */
    private static void undoCountsWritesOfAllTypes() {
        ExtensionStarts x = Acts.classes(16);
        for (int t = 0; t < 16; t++) {
            if (t < 15) {
                x.line(t, Acts.MAKE, t + 1, 0, 0);
            }
            for (int i = 0; i < 8; i++) {
                x.line(t, Acts.PUT, 0, i, 0);
            }
        }
        CHECKS.due("made", Acts.make(x, 0, 0), 1);
        CHECKS.due("15 times 7, and 8", x.undo(0), 113);
    }

    /** "The latest USE .. that is not undone": each but once. */
    private static void undoneTwice() {
        ExtensionStarts x = Acts.classes(1);
        Acts.make(x, 0, 0);
        Acts.make(x, 0, 0);
        Acts.make(x, 0, 0);
        for (int left = 2; left >= 0; left--) {
            CHECKS.due("undone", x.undo(0), 0);
            CHECKS.due("left", x.told(0, 0, 1), left);
        }
        CHECKS.due("none", x.undo(0), Acts.NONE);
        CHECKS.due("not below 0", x.told(0, 0, 1), 0);
    }

    /** A USE after an undo comes before those that were there before it. */
    private static void undoAfterUndo() {
        ExtensionStarts x = Acts.classes(1);
        Acts.set(x, 0, 0, 0, 5);
        Acts.make(x, 0, 0);
        x.undo(0);
        x.use(0, 0, Acts.ROW, 0, 0);
        CHECKS.due("the row", x.undo(0), 0);
        CHECKS.due("the first", x.undo(0), 1);
        CHECKS.due("none", x.undo(0), Acts.NONE);
        CHECKS.due("three uses", x.about(1), 3);
    }

    private static void undoInEachSession() {
        ExtensionStarts x = Acts.classes(1);
        for (int i = 0; i < 8; i++) {
            Acts.make(x, i % 4, 0);
        }
        for (int s = 3; s >= 0; s--) {
            CHECKS.due("undone", x.undo(s), 0);
            for (int other = 0; other < 4; other++) {
                CHECKS.due("things", x.told(other, 0, 1), other < s ? 2 : 1);
            }
        }
    }

    /** "NONE: there is none (since restart())". */
    private static void noneSinceRestart() {
        ExtensionStarts x = Acts.classes(1);
        for (int s = 0; s < 4; s++) {
            Acts.make(x, s, 0);
            Acts.make(x, s, 0);
        }
        x.restart(3);
        CHECKS.due("none", x.undo(3), Acts.NONE);
        CHECKS.due("no things", x.told(3, 0, 1), 0);
        CHECKS.due("one more", Acts.make(x, 3, 0), 1);
        CHECKS.due("that one", x.undo(3), 0);
        CHECKS.due("none before it", x.undo(3), Acts.NONE);
        CHECKS.due("another session", x.undo(0), 0);
    }

    private static void restartOfASessionAsAtFirst() {
        ExtensionStarts x = new ExtensionStarts();
        for (int s = 0; s < 4; s++) {
            CHECKS.due("no types", x.restart(s), 0);
        }
        x = Acts.classes(16);
        Acts.make(x, 0, 0);
        for (int s = 0; s < 4; s++) {
            CHECKS.due("none but one is awake", x.restart(s), s == 0 ? 1 : 0);
        }
    }

    /** AWAKE and BROKEN ones of all 16; then the same with one that is SHARED. */
    private static void restartCountsAllThatAreNotShared() {
        ExtensionStarts x = Acts.classes(16);
        for (int t = 0; t < 16; t++) {
            x.line(t, t % 2 == 0 ? Acts.TELL : Acts.FAIL, 0, 0, 0);
            Acts.make(x, 3, t);
        }
        CHECKS.due("all", x.restart(3), 16);
        CHECKS.due("again", x.restart(3), 0);
        ExtensionStarts y = new ExtensionStarts();
        for (int t = 0; t < 3; t++) {
            y.type(Acts.CLASS, Acts.NONE, t == 1);
            Acts.make(y, 0, t);
        }
        CHECKS.due("two of three", y.restart(0), 2);
        CHECKS.due("the shared one", y.told(0, 1, 0), Acts.AWAKE);
    }

    /** "their FIELDS' numbers 0 (those that CONSTANT ones had when PLAIN, too)". */
    private static void restartForgetsNumbersBehindConstants() {
        ExtensionStarts x = Acts.classes(1);
        for (int f = 0; f < 5; f++) {
            x.field(0, f, false, 0);
            Acts.set(x, 0, 0, f, 9);
            Acts.set(x, 1, 0, f, 9);
            x.field(0, f, true, 1);
        }
        CHECKS.due("restart", x.restart(0), 1);
        for (int f = 0; f < 5; f++) {
            CHECKS.due("constants stay", Acts.ask(x, 0, 0, f), 1);
            x.field(0, f, false, 0);
            CHECKS.due("0", x.peek(0, 0, f), 0);
            CHECKS.due("another session's stays", x.peek(1, 0, f), 9);
        }
    }

    /** SHARED TYPES stay AWAKE or BROKEN, but the SESSION has no things of these either. */
    private static void restartLeavesWhatIsShared() {
        ExtensionStarts x = new ExtensionStarts();
        x.type(Acts.CLASS, Acts.NONE, true);
        x.type(Acts.CLASS, Acts.NONE, true);
        x.field(0, 0, false, 0);
        x.line(0, Acts.PUT, 0, 8, 0);
        x.line(1, Acts.FAIL, 0, 0, 0);
        Acts.make(x, 0, 0);
        Acts.make(x, 1, 0);
        Acts.make(x, 0, 1);
        CHECKS.due("none that is not shared", x.restart(0), 0);
        CHECKS.due("awake", x.told(0, 0, 0), Acts.AWAKE);
        CHECKS.due("broken", x.told(0, 1, 0), Acts.BROKEN);
        CHECKS.failureDue("not found", x, Acts.make(x, 0, 1), Acts.NOT_FOUND);
        CHECKS.due("number", x.peek(0, 0, 0), 8);
        CHECKS.due("no things", x.told(0, 0, 1), 0);
        CHECKS.due("another session's thing", x.told(1, 0, 1), 1);
        CHECKS.due("starts stay", x.about(2), 2);
        CHECKS.due("steps stay", x.steps(0, 0), 998);
    }

    private static void clearOfNothing() {
        ExtensionStarts x = new ExtensionStarts();
        CHECKS.due("clear", x.clear(), 0);
        x.steps(2, 5);
        CHECKS.due("clear", x.clear(), 0);
        CHECKS.due("1000 again", x.steps(2, 5), 1000);
        CHECKS.due("the first type", x.type(Acts.CLASS, Acts.NONE, false), 0);
        CHECKS.due("clear", x.clear(), 1);
        CHECKS.due("clear", x.clear(), 0);
    }

    /** All 16 TYPES with FIELDS, LINES and FACES, SHARED or not; then 16 others, of which nothing of these is left. */
    private static void clearOfAll() {
        ExtensionStarts x = new ExtensionStarts();
        for (int t = 0; t < 16; t++) {
            x.type(t < 3 ? Acts.FULL_FACE : Acts.CLASS, Acts.NONE, t % 2 == 0);
            for (int f = 0; f < 5; f++) {
                x.field(t, f, false, 0);
                Acts.set(x, t % 4, t, f, 7);
            }
            x.line(t, Acts.FAIL, 0, 0, 0);
        }
        CHECKS.due("clear", x.clear(), 16);
        for (int t = 0; t < 16; t++) {
            x.type(Acts.CLASS, Acts.NONE, t % 3 == 0);
            for (int f = 0; f < 5; f++) {
                CHECKS.due("not there", x.peek(t % 4, t, f), Acts.STATE);
                x.field(t, f, false, 0);
            }
            CHECKS.due("all 0", x.told(t % 4, t, 2), 0);
            CHECKS.due("asleep", x.told(t % 4, t, 0), Acts.ASLEEP);
            CHECKS.due("made", Acts.make(x, t % 4, t), 1);
        }
        CHECKS.due("no line was done", x.about(4), 0);
        CHECKS.due("uses from 1 on", x.start(0, 3), 1);
    }
}
