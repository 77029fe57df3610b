/** Many USES of one object are answered as due up to its 512th call; later answers are free, but nothing is thrown. */
public final class BeyondCallsTest {
    public static void main(String[] args) {
        Checks checks = new Checks("beyond the calls");
        ExtensionStarts x = Acts.classes(1);
        for (int i = 1; i <= 250; i++) {
            checks.due("made", Acts.make(x, 0, 0), i);
        }
        for (int i = 1; i <= 250; i++) {
            checks.due("undone", x.undo(0), 0);
        }
        checks.due("no thing is left", x.told(0, 0, 1), 0);
        for (int i = 0; i < 3000; i++) {
            x.use(i % 4, 0, i % 3, 0, 1);
        }
        for (int i = 0; i < 3000; i++) {
            x.undo(i % 4);
        }
        x.clear();
        checks.end();
    }
}
