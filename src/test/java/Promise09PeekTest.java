/** Promise 9: a PLAIN FIELD of the TYPE itself, without a START. */
public final class Promise09PeekTest {
    public static void main(String[] args) {
        Checks checks = new Checks("promise 9");
        ExtensionStarts x = Acts.classes(1);
        x.type(Acts.CLASS, 0, false);
        x.field(0, 1, true, 5);
        x.line(0, Acts.PUT, 0, -103, 0);
        checks.due("session 4", x.peek(4, 0, 9), Acts.UNKNOWN);
        checks.due("session -1", x.peek(-1, 0, 0), Acts.UNKNOWN);
        checks.due("type 2", x.peek(0, 2, 9), Acts.UNKNOWN);
        checks.due("type -1", x.peek(0, -1, 0), Acts.UNKNOWN);
        checks.due("f -1", x.peek(0, 0, -1), Acts.STATE);
        checks.due("f 5", x.peek(0, 0, 5), Acts.STATE);
        checks.due("a constant", x.peek(0, 0, 1), Acts.STATE);
        checks.due("not there", x.peek(0, 0, 2), Acts.STATE);
        checks.due("of its parent only", x.peek(0, 1, 0), Acts.STATE);
        checks.due("as it is", x.peek(0, 0, 0), 0);
        checks.due("starts nothing", x.told(0, 0, 0), Acts.ASLEEP);
        checks.due("is no use", x.about(1), 0);
        Acts.make(x, 0, 1);
        checks.due("a number like a refusal", x.peek(0, 0, 0), -103);
        checks.due("in another session", x.peek(1, 0, 0), 0);
        checks.end();
    }
}
