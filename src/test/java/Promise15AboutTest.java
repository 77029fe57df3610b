/** Promise 15: how many TYPES, USES, STARTS, MESSAGES and STEPS. */
public final class Promise15AboutTest {
    public static void main(String[] args) {
        Checks checks = new Checks("promise 15");
        ExtensionStarts x = Acts.classes(3);
        x.line(0, Acts.TELL, 1, 0, 0);
        x.line(0, Acts.WAIT, 20, 0, 0);
        x.line(0, Acts.PUT, 1, 0, 0);
        x.line(0, Acts.TELL, 2, 0, 0);
        Acts.make(x, 0, 0);
        Acts.make(x, 1, 1);
        Acts.make(x, 1, 1);
        Acts.make(x, 1, 9);
        checks.due("types", x.about(0), 3);
        checks.due("uses, refused ones are none", x.about(1), 3);
        checks.due("starts", x.about(2), 2);
        checks.due("messages", x.about(3), 1);
        checks.due("steps, that of the line that failed too", x.about(4), 23);
        checks.due("what -1", x.about(-1), Acts.OUTSIDE);
        checks.due("what 5", x.about(5), Acts.OUTSIDE);
        x.undo(0);
        x.restart(0);
        x.steps(0, 5);
        checks.due("uses stay", x.about(1), 3);
        checks.due("starts stay", x.about(2), 2);
        checks.due("messages stay", x.about(3), 1);
        checks.due("steps stay", x.about(4), 23);
        checks.end();
    }
}
