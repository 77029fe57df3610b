/** Promise 13: undoing takes back things that USES made, and leaves STARTS and FIELDS. */
public final class Promise13UndoTest {
    private static final Checks CHECKS = new Checks("promise 13");

    public static void main(String[] args) {
        things();
        writes();
        sessionsAndRestart();
        CHECKS.end();
    }

    private static void things() {
        ExtensionStarts x = Acts.classes(2);
        x.line(0, Acts.PUT, 0, 4, 0);
        x.line(0, Acts.MAKE, 1, 0, 0);
        x.line(0, Acts.MAKE, 0, 0, 0);
        CHECKS.due("unknown", x.undo(4), Acts.UNKNOWN);
        CHECKS.due("unknown", x.undo(-1), Acts.UNKNOWN);
        CHECKS.due("none", x.undo(0), Acts.NONE);
        Acts.make(x, 0, 0);
        CHECKS.due("undo", x.undo(0), 1);
        CHECKS.due("its own thing is gone", x.told(0, 0, 1), 1);
        CHECKS.due("what a line made stays", x.told(0, 1, 1), 1);
        CHECKS.due("what was started stays", x.told(0, 0, 0), Acts.AWAKE);
        CHECKS.due("fields stay", x.peek(0, 0, 0), 4);
        CHECKS.due("uses are counted on", x.about(1), 1);
        CHECKS.due("none more", x.undo(0), Acts.NONE);
        Acts.make(x, 0, 1);
        CHECKS.due("a new one", x.undo(0), 0);
        CHECKS.due("only that", x.undo(0), Acts.NONE);
    }

    private static void writes() {
        ExtensionStarts x = Acts.classes(3);
        x.line(0, Acts.PUT, 0, 0, 0);
        x.line(0, Acts.ADD, 0, 1, 0);
        x.line(0, Acts.TRY, 0, 2, 0);
        x.line(0, Acts.FAIL, 1, 0, 0);
        x.line(1, Acts.PUT, 0, 3, 0);
        x.line(2, Acts.PUT, 0, 3, 0);
        x.line(2, Acts.PUT, 1, 3, 0);
        CHECKS.failureDue("made", x, Acts.make(x, 0, 0), 11);
        CHECKS.due("a write of the same number", Acts.set(x, 0, 1, 0, 3), 3);
        CHECKS.failureDue("broken", x, Acts.set(x, 0, 0, 0, 3), Acts.NOT_FOUND);
        CHECKS.due("nothing was written", x.undo(0), 0);
        CHECKS.due("one", x.undo(0), 1);
        CHECKS.due("three of its own, one of 1, one of 2", x.undo(0), 5);
        CHECKS.due("a thing that was not made is not taken back", x.told(0, 0, 1), 0);
    }

    private static void sessionsAndRestart() {
        ExtensionStarts x = Acts.classes(2);
        Acts.make(x, 0, 0);
        Acts.set(x, 1, 0, 0, 5);
        Acts.make(x, 0, 1);
        Acts.make(x, 1, 1);
        CHECKS.due("session 1", x.undo(1), 0);
        CHECKS.due("session 1", x.undo(1), 1);
        CHECKS.due("session 1", x.undo(1), Acts.NONE);
        CHECKS.due("things of session 0", x.told(0, 1, 1), 1);
        x.undo(0);
        CHECKS.due("the latest first", x.told(0, 1, 1), 0);
        CHECKS.due("the other stays", x.told(0, 0, 1), 1);
        x.restart(0);
        CHECKS.due("none since restart", x.undo(0), Acts.NONE);
        CHECKS.due("no thing less", x.told(0, 0, 1), 0);
        Acts.make(x, 0, 0);
        CHECKS.due("after restart", x.undo(0), 0);
        CHECKS.due("none since restart", x.undo(0), Acts.NONE);
    }
}
