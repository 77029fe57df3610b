/** Promise 12: STEPS left, taken by LINES, and TIRED. */
public final class Promise12StepsTest {
    private static final Checks CHECKS = new Checks("promise 12");

    public static void main(String[] args) {
        settingSteps();
        takingSteps();
        tired();
        CHECKS.end();
    }

    private static void settingSteps() {
        ExtensionStarts x = new ExtensionStarts();
        CHECKS.due("session -1", x.steps(-1, -1), Acts.UNKNOWN);
        CHECKS.due("session 4", x.steps(4, 0), Acts.UNKNOWN);
        CHECKS.due("n -1", x.steps(0, -1), Acts.OUTSIDE);
        CHECKS.due("n 100001", x.steps(0, 100001), Acts.OUTSIDE);
        CHECKS.due("first", x.steps(0, 100000), 1000);
        CHECKS.due("then", x.steps(0, 0), 100000);
        CHECKS.due("then", x.steps(0, 3), 0);
        CHECKS.due("of its own", x.steps(1, 3), 1000);
    }

    private static void takingSteps() {
        ExtensionStarts x = Acts.classes(2);
        x.type(Acts.CLASS, Acts.NONE, true);
        x.line(0, Acts.WAIT, 1000, 0, 0);
        x.line(0, Acts.MAKE, 1, 0, 0);
        x.line(1, Acts.WAIT, 0, 0, 0);
        x.line(1, Acts.TELL, 0, 0, 0);
        x.line(2, Acts.TELL, 0, 0, 0);
        x.steps(0, 2000);
        CHECKS.due("made", Acts.make(x, 0, 0), 1);
        CHECKS.due("1001, 1, 1, 1", x.steps(0, 2000), 996);
        CHECKS.due("awake: none", Acts.make(x, 0, 0), 2);
        CHECKS.due("2000 still", x.steps(0, 2000), 2000);
        Acts.make(x, 3, 2);
        CHECKS.due("a shared type takes from the session of the use", x.steps(3, 0), 999);
        CHECKS.due("in all", x.about(4), 1005);
        x.restart(0);
        CHECKS.due("restart leaves steps", x.steps(0, 1), 2000);
        CHECKS.failureDue("not so many left", x, Acts.make(x, 0, 0), Acts.TIRED);
        CHECKS.due("none goes", x.steps(0, 1), 1);
        x.restart(0);
        x.steps(0, 1004);
        CHECKS.due("just so many left", Acts.make(x, 0, 0), 1);
        CHECKS.due("all go", x.steps(0, 0), 0);
    }

    private static void tired() {
        ExtensionStarts x = Acts.classes(3);
        x.line(0, Acts.TRY, 0, 1, 0);
        x.line(0, Acts.TELL, 7, 0, 0);
        x.line(1, Acts.WAIT, 5, 0, 0);
        x.steps(0, 6);
        CHECKS.due("a try keeps it", Acts.make(x, 0, 0), 1);
        CHECKS.due("as a failure", x.peek(0, 0, 0), Acts.TIRED);
        CHECKS.startDue(x, 0, 1, 0, Acts.TIRED, 1);
        CHECKS.due("the line after it is done", x.message(0), 7);
        CHECKS.due("two steps went", x.steps(0, 0), 4);
        CHECKS.due("no lines need no steps", Acts.make(x, 0, 2), 1);
        x.restart(0);
        CHECKS.failureDue("a try that is not done keeps nothing", x, Acts.make(x, 0, 0), Acts.TIRED);
        CHECKS.due("the other is not started", x.told(0, 1, 0), Acts.ASLEEP);
    }
}
