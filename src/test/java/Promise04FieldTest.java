/** Promise 4: FIELDS become CONSTANT or PLAIN; numbers outlast a time as CONSTANT. */
public final class Promise04FieldTest {
    private static final Checks CHECKS = new Checks("promise 4");

    public static void main(String[] args) {
        answersAndRefusals();
        numbersStay();
        CHECKS.end();
    }

    private static void answersAndRefusals() {
        ExtensionStarts x = Acts.classes(1);
        CHECKS.due("no such type", x.field(1, 0, true, 0), Acts.UNKNOWN);
        CHECKS.due("type before f", x.field(-1, 9, true, 0), Acts.UNKNOWN);
        CHECKS.due("f -1", x.field(0, -1, true, 0), Acts.OUTSIDE);
        CHECKS.due("f 5", x.field(0, 5, false, 0), Acts.OUTSIDE);
        CHECKS.due("v 1000", x.field(0, 1, true, 1000), Acts.OUTSIDE);
        CHECKS.due("v -1000", x.field(0, 1, true, -1000), Acts.OUTSIDE);
        CHECKS.failureDue("refused fields are not there", x, Acts.ask(x, 0, 0, 1), Acts.NOT_FOUND);
        CHECKS.due("999", x.field(0, 1, true, 999), 1);
        CHECKS.due("-999", x.field(0, 4, true, -999), 1);
        CHECKS.due("plain, v not looked at", x.field(0, 2, false, 1000), 0);
        CHECKS.due("asked", Acts.ask(x, 0, 0, 1), 999);
        CHECKS.due("asked", Acts.ask(x, 0, 0, 4), -999);
        CHECKS.due("constant anew", x.field(0, 4, true, 6), 1);
        CHECKS.due("asked", Acts.ask(x, 0, 0, 4), 6);
        CHECKS.due("plain from constant", x.field(0, 4, false, 0), 0);
        CHECKS.due("never plain before", x.peek(0, 0, 4), 0);
    }

    private static void numbersStay() {
        ExtensionStarts x = Acts.classes(1);
        Acts.set(x, 0, 0, 0, 8);
        Acts.set(x, 2, 0, 0, 9);
        x.field(0, 0, true, 3);
        CHECKS.due("no plain field", x.peek(0, 0, 0), Acts.STATE);
        CHECKS.due("constant in each session", Acts.ask(x, 2, 0, 0), 3);
        x.field(0, 0, false, 0);
        CHECKS.due("session 0", x.peek(0, 0, 0), 8);
        CHECKS.due("session 1", x.peek(1, 0, 0), 0);
        CHECKS.due("session 2", x.peek(2, 0, 0), 9);
        x.field(0, 0, false, 0);
        CHECKS.due("plain from plain", x.peek(0, 0, 0), 8);
    }
}
