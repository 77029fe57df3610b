/** Promise 7: the FAILURE of the latest USE. */
public final class Promise07FailureTest {
    public static void main(String[] args) {
        Checks checks = new Checks("promise 7");
        ExtensionStarts x = Acts.classes(8);
        checks.due("none yet", x.failure(), 0);
        for (int cause = 0; cause <= 6; cause++) {
            x.line(cause, Acts.FAIL, cause, 0, 0);
            checks.failureDue("cause " + cause, x, Acts.make(x, 0, cause), 10 + cause);
        }
        checks.due("a refusal", x.use(0, 9, 0, 0, 0), Acts.UNKNOWN);
        checks.due("is no use", x.failure(), 16);
        x.undo(0);
        x.restart(0);
        checks.due("undo and restart leave it", x.failure(), 16);
        checks.due("a use of another session", Acts.make(x, 1, 7), 1);
        checks.due("had none", x.failure(), 0);
        checks.failureDue("by its cause in another session", x, Acts.make(x, 1, 0), 10);
        checks.due("a row", x.use(0, 0, Acts.ROW, 0, 0), 0);
        checks.due("had none", x.failure(), 0);
        checks.failureDue("broken", x, Acts.make(x, 1, 0), Acts.NOT_FOUND);
        x.clear();
        checks.due("clear()", x.failure(), 0);
        checks.end();
    }
}
