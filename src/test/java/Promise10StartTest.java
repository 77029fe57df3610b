/** Promise 10: STARTS are kept as they end, 150 at most. */
public final class Promise10StartTest {
    private static final Checks CHECKS = new Checks("promise 10");

    public static void main(String[] args) {
        order();
        limit();
        CHECKS.end();
    }

    private static void order() {
        ExtensionStarts x = Acts.classes(3);
        x.line(0, Acts.MAKE, 1, 0, 0);
        x.line(1, Acts.TRY, 0, 2, 0);
        x.line(2, Acts.FAIL, 4, 0, 0);
        x.use(2, 0, Acts.ROW, 0, 0);
        CHECKS.due("refused", x.use(3, 7, 0, 0, 0), Acts.UNKNOWN);
        Acts.make(x, 3, 0);
        Acts.make(x, 3, 2);
        Acts.make(x, 1, 2);
        CHECKS.startDue(x, 0, 2, 3, 14, 2);
        CHECKS.startDue(x, 1, 1, 3, 0, 2);
        CHECKS.startDue(x, 2, 0, 3, 0, 2);
        CHECKS.startDue(x, 3, 2, 1, 14, 4);
        CHECKS.due("not found is no start", x.about(2), 4);
        CHECKS.due("4", x.start(4, 0), Acts.NONE);
        CHECKS.due("-1", x.start(-1, 0), Acts.NONE);
        CHECKS.due("none, told before outside", x.start(4, 4), Acts.NONE);
        CHECKS.due("what -1", x.start(0, -1), Acts.OUTSIDE);
        CHECKS.due("what 4", x.start(3, 4), Acts.OUTSIDE);
        x.undo(3);
        x.restart(3);
        CHECKS.startDue(x, 2, 0, 3, 0, 2);
    }

    private static void limit() {
        ExtensionStarts x = Acts.classes(16);
        for (int t = 0; t < 15; t++) {
            x.line(t, Acts.MAKE, t + 1, 0, 0);
        }
        for (int i = 0; i < 10; i++) {
            Acts.make(x, 0, 0);
            CHECKS.due("restart", x.restart(0), 16);
        }
        CHECKS.due("150 are kept", x.about(2), 150);
        CHECKS.startDue(x, 149, 10, 0, 0, 10);
        CHECKS.due("the 151st", x.start(150, 0), Acts.NONE);
        Acts.make(x, 0, 0);
        CHECKS.due("it starts all the same", x.told(0, 0, 0), Acts.AWAKE);
        CHECKS.due("no more", x.about(2), 150);
    }
}
