/** Promise 11: MESSAGES in order, 100 at most; there is none: an exception. */
public final class Promise11MessageTest {
    private static final Checks CHECKS = new Checks("promise 11");

    public static void main(String[] args) {
        order();
        limit();
        CHECKS.end();
    }

    private static void order() {
        ExtensionStarts x = Acts.classes(2);
        x.line(0, Acts.TELL, 999, 0, 0);
        x.line(0, Acts.MAKE, 1, 0, 0);
        x.line(0, Acts.TELL, -999, 0, 0);
        x.line(1, Acts.TELL, 0, 0, 0);
        x.line(1, Acts.FAIL, 0, 0, 0);
        x.line(1, Acts.TELL, 1, 0, 0);
        CHECKS.noMessage(x, 0);
        Acts.make(x, 0, 0);
        CHECKS.due("message 0", x.message(0), 999);
        CHECKS.due("message 1", x.message(1), 0);
        CHECKS.noMessage(x, 2);
        CHECKS.noMessage(x, -1);
        CHECKS.noMessage(x, Integer.MIN_VALUE);
        CHECKS.noMessage(x, Integer.MAX_VALUE);
        x.clear();
        CHECKS.noMessage(x, 0);
    }

    private static void limit() {
        ExtensionStarts x = Acts.classes(1);
        for (int i = 0; i < 8; i++) {
            x.line(0, Acts.TELL, i, 0, 0);
        }
        for (int i = 0; i < 13; i++) {
            CHECKS.due("made", Acts.make(x, 0, 0), 1);
            x.restart(0);
        }
        CHECKS.due("100 are kept", x.about(3), 100);
        CHECKS.due("the 100th", x.message(99), 3);
        CHECKS.noMessage(x, 100);
        CHECKS.due("all lines take steps", x.about(4), 104);
    }
}
