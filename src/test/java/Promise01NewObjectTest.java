/** Promise 1: no TYPES, and 1000 STEPS left for each SESSION. */
public final class Promise01NewObjectTest {
    public static void main(String[] args) {
        Checks checks = new Checks("promise 1");
        ExtensionStarts x = new ExtensionStarts();
        for (int what = 0; what <= 4; what++) {
            checks.due("about(" + what + ")", x.about(what), 0);
        }
        checks.due("failure()", x.failure(), 0);
        for (int s = 0; s < 4; s++) {
            checks.due("undo(" + s + ")", x.undo(s), Acts.NONE);
            checks.due("restart(" + s + ")", x.restart(s), 0);
            checks.due("steps(" + s + ")", x.steps(s, 0), 1000);
        }
        checks.due("told of no type", x.told(0, 0, 0), Acts.UNKNOWN);
        checks.due("start(0, 0)", x.start(0, 0), Acts.NONE);
        checks.noMessage(x, 0);
        checks.due("clear()", x.clear(), 0);
        checks.end();
    }
}
