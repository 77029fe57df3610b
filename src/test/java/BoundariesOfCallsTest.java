/** "An object is used for at most 512 calls after it has been made": the 512th is answered as the first. */
public final class BoundariesOfCallsTest {
    private static final Checks CHECKS = new Checks("boundaries of calls");

    public static void main(String[] args) {
        allButOneAreUses();
        allUsesAreUndone();
        usesAfterClear();
        CHECKS.end();
    }

    /** type, then 511 USES, the most that there can be. */
    private static void allButOneAreUses() {
        ExtensionStarts x = new ExtensionStarts();
        CHECKS.due("call 1", x.type(Acts.CLASS, Acts.NONE, false), 0);
        for (int i = 1; i <= 511; i++) {
            CHECKS.due("call " + (i + 1), Acts.make(x, 0, 0), i);
        }
    }

    /** type, 255 USES, 255 times undo, and a look. */
    private static void allUsesAreUndone() {
        ExtensionStarts x = new ExtensionStarts();
        x.type(Acts.CLASS, Acts.NONE, false);
        for (int i = 1; i <= 255; i++) {
            CHECKS.due("made", Acts.make(x, 3, 0), i);
        }
        for (int i = 1; i <= 255; i++) {
            CHECKS.due("undone", x.undo(3), 0);
        }
        CHECKS.due("call 512", x.told(3, 0, 1), 0);
    }

    /** type, 254 USES, clear, type, 254 USES, and a look: the number of the USE is from 1 on again. */
    private static void usesAfterClear() {
        ExtensionStarts x = new ExtensionStarts();
        for (int half = 0; half < 2; half++) {
            CHECKS.due("type", x.type(Acts.CLASS, Acts.NONE, false), 0);
            for (int i = 1; i <= 254; i++) {
                CHECKS.due("made", Acts.make(x, 1, 0), i);
            }
            if (half == 0) {
                CHECKS.due("clear", x.clear(), 1);
            }
        }
        CHECKS.due("call 512", x.about(1), 254);
    }
}
