/** Promise 16: all is as at the beginning. */
public final class Promise16ClearTest {
    public static void main(String[] args) {
        Checks checks = new Checks("promise 16");
        ExtensionStarts x = filled();
        checks.due("clear()", x.clear(), 4);
        checks.due("again", x.clear(), 0);
        for (int what = 0; what <= 4; what++) {
            checks.due("about(" + what + ")", x.about(what), 0);
        }
        checks.due("failure()", x.failure(), 0);
        checks.due("no type", x.told(0, 0, 0), Acts.UNKNOWN);
        checks.due("no start", x.start(0, 0), Acts.NONE);
        checks.noMessage(x, 0);
        for (int s = 0; s < 4; s++) {
            checks.due("undo(" + s + ")", x.undo(s), Acts.NONE);
            checks.due("steps(" + s + ")", x.steps(s, 1000), 1000);
        }
        checks.due("the first type", x.type(Acts.CLASS, Acts.NONE, true), 0);
        checks.due("is asleep", x.told(0, 0, 0), Acts.ASLEEP);
        checks.due("has no things", x.told(0, 0, 1), 0);
        checks.failureDue("has no fields", x, Acts.ask(x, 0, 0, 0), Acts.NOT_FOUND);
        x.field(0, 0, false, 0);
        checks.due("its numbers are 0", x.peek(0, 0, 0), 0);
        checks.due("has no lines", x.line(0, Acts.TELL, 5, 0, 0), 1);
        x.type(Acts.FULL_FACE, Acts.NONE, false);
        x.type(Acts.CLASS, Acts.NONE, false);
        checks.due("has no faces", x.face(2, 1), 1);
        checks.due("made", Acts.make(x, 0, 2), 1);
        checks.startDue(x, 0, 1, 0, 0, 2);
        checks.startDue(x, 1, 2, 0, 0, 2);
        checks.end();
    }

    private static ExtensionStarts filled() {
        ExtensionStarts x = new ExtensionStarts();
        x.type(Acts.CLASS, Acts.NONE, true);
        x.type(Acts.FULL_FACE, Acts.NONE, false);
        x.type(Acts.CLASS, 0, false);
        x.type(Acts.CLASS, Acts.NONE, false);
        x.face(2, 1);
        x.field(0, 0, false, 0);
        x.field(2, 0, false, 0);
        x.line(0, Acts.PUT, 0, 5, 0);
        x.line(2, Acts.TELL, 5, 0, 0);
        x.line(3, Acts.FAIL, 5, 0, 0);
        for (int s = 0; s < 4; s++) {
            Acts.make(x, s, 2);
            Acts.set(x, s, 2, 0, 6);
            Acts.make(x, s, 0);
            Acts.make(x, s, 3);
            x.steps(s, 9);
        }
        return x;
    }
}
