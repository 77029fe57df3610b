/** After 512 calls answers are free, but nothing is thrown; and just so many calls are answered as due. */
public final class BeyondCallsTest {
    private static final int CALLS_BEFORE_UNDO = 257;

    public static void main(String[] args) {
        Checks checks = new Checks("beyond the calls");
        ExtensionStarts x = Acts.classes(1);
        for (int i = 1; i < CALLS_BEFORE_UNDO - 2; i++) {
            checks.due("made", Acts.make(x, 0, 0), i);
        }
        for (int i = 1; i < CALLS_BEFORE_UNDO - 2; i++) {
            checks.due("undone", x.undo(0), 0);
        }
        checks.due("no thing is left", x.told(0, 0, 1), 0);
        for (int i = 0; i < 3000; i++) {
            x.use(i % 4, 0, i % 4, 0, 1);
            x.failure();
        }
        for (int i = 0; i < 3000; i++) {
            x.undo(i % 4);
        }
        checks.due("clear()", x.clear(), 1);
        checks.end();
    }
}
