/** Promise 14: a SESSION forgets all but what is SHARED, and its STEPS. */
public final class Promise14RestartTest {
    public static void main(String[] args) {
        Checks checks = new Checks("promise 14");
        ExtensionStarts x = Acts.classes(3);
        x.type(Acts.CLASS, Acts.NONE, true);
        x.field(3, 0, false, 0);
        x.field(0, 1, false, 0);
        x.line(1, Acts.FAIL, 0, 0, 0);
        checks.due("unknown", x.restart(-1), Acts.UNKNOWN);
        checks.due("unknown", x.restart(4), Acts.UNKNOWN);
        for (int s = 0; s < 2; s++) {
            Acts.make(x, s, 0);
            Acts.make(x, s, 1);
            Acts.make(x, s, 3);
            Acts.set(x, s, 0, 0, 7);
            Acts.set(x, s, 0, 1, 8);
            Acts.set(x, s, 3, 0, 9);
        }
        x.field(0, 1, true, 1);
        x.steps(0, 44);
        checks.due("awake and broken, not shared", x.restart(0), 2);
        checks.due("asleep", x.told(0, 0, 0), Acts.ASLEEP);
        checks.due("asleep from broken", x.told(0, 1, 0), Acts.ASLEEP);
        checks.due("shared stays awake", x.told(0, 3, 0), Acts.AWAKE);
        checks.due("number", x.peek(0, 0, 0), 0);
        checks.due("number of a shared type", x.peek(0, 3, 0), 9);
        checks.due("no things", x.told(0, 0, 1), 0);
        checks.due("no things of shared types", x.told(0, 3, 1), 0);
        checks.due("no uses to be undone", x.undo(0), Acts.NONE);
        checks.due("uses still count", x.about(1), 12);
        checks.due("steps", x.steps(0, 1000), 44);
        x.field(0, 1, false, 0);
        checks.due("a number behind a constant", x.peek(0, 0, 1), 0);
        checks.due("other session's number", x.peek(1, 0, 1), 8);
        checks.due("other session's state", x.told(1, 1, 0), Acts.BROKEN);
        checks.due("other session's things", x.told(1, 3, 1), 1);
        checks.due("other session's undo", x.undo(1), 1);
        checks.due("again", x.restart(0), 0);
        checks.failureDue("fails by its cause anew", x, Acts.make(x, 0, 1), 10);
        checks.end();
    }
}
