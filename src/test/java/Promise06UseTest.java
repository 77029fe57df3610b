/** Promise 6: what USES answer, start and refuse. */
public final class Promise06UseTest {
    private static final Checks CHECKS = new Checks("promise 6");

    public static void main(String[] args) {
        refusals();
        making();
        asking();
        setting();
        CHECKS.end();
    }

    private static void refusals() {
        ExtensionStarts x = Acts.classes(1);
        x.type(Acts.FULL_FACE, Acts.NONE, false);
        x.field(0, 1, true, 4);
        CHECKS.due("session -1", x.use(-1, 0, 0, 0, 0), Acts.UNKNOWN);
        CHECKS.due("session 4", x.use(4, 0, 9, 9, 0), Acts.UNKNOWN);
        CHECKS.due("type -1", x.use(0, -1, 0, 0, 0), Acts.UNKNOWN);
        CHECKS.due("type 2", x.use(0, 2, 9, 0, 0), Acts.UNKNOWN);
        CHECKS.due("how -1", x.use(0, 0, -1, 0, 0), Acts.OUTSIDE);
        CHECKS.due("how 4", x.use(0, 0, 4, 0, 0), Acts.OUTSIDE);
        CHECKS.due("ask f -1", Acts.ask(x, 0, 0, -1), Acts.OUTSIDE);
        CHECKS.due("ask f 5", Acts.ask(x, 0, 0, 5), Acts.OUTSIDE);
        CHECKS.due("set f 5", Acts.set(x, 0, 0, 5, 0), Acts.OUTSIDE);
        CHECKS.due("set v 1000", Acts.set(x, 0, 0, 0, 1000), Acts.OUTSIDE);
        CHECKS.due("set v -1000, constant", Acts.set(x, 0, 0, 1, -1000), Acts.OUTSIDE);
        CHECKS.due("set a constant", Acts.set(x, 0, 0, 1, 0), Acts.STATE);
        CHECKS.due("set what is not there", Acts.set(x, 0, 0, 2, 0), Acts.STATE);
        CHECKS.due("a thing of a face", Acts.make(x, 0, 1), Acts.STATE);
        CHECKS.due("no uses", x.about(1), 0);
        CHECKS.due("no starts", x.about(2), 0);
        CHECKS.due("none to be undone", x.undo(0), Acts.NONE);
    }

    private static void making() {
        ExtensionStarts x = Acts.classes(2);
        x.line(1, Acts.MAKE, 0, 0, 0);
        x.line(1, Acts.MAKE, 1, 0, 0);
        CHECKS.due("f and v not looked at", x.use(0, 0, Acts.MAKING, -7, 5000), 1);
        CHECKS.due("a second", Acts.make(x, 0, 0), 2);
        CHECKS.due("of another session", Acts.make(x, 1, 0), 1);
        CHECKS.due("its lines make one before", Acts.make(x, 0, 1), 2);
        CHECKS.due("and one of the other", x.told(0, 0, 1), 3);
        CHECKS.due("lines are done once", Acts.make(x, 0, 1), 3);
        CHECKS.due("a row", x.use(3, 1, Acts.ROW, -7, 5000), 0);
        CHECKS.due("starts nothing", x.told(3, 1, 0), Acts.ASLEEP);
        CHECKS.due("a row is a use", x.about(1), 6);
    }

    private static void asking() {
        ExtensionStarts x = Acts.classes(2);
        x.type(Acts.CLASS, 0, false);
        x.line(0, Acts.PUT, 0, 12, 0);
        x.field(0, 3, true, 77);
        x.line(1, Acts.PUT, 0, 3, 0);
        x.line(1, Acts.FAIL, 3, 0, 0);
        CHECKS.due("a constant of the parent, v not looked at", x.use(0, 2, Acts.ASKING, 3, 5000), 77);
        CHECKS.due("starts nothing", x.about(2), 0);
        CHECKS.due("a plain field of the parent", Acts.ask(x, 0, 2, 0), 12);
        CHECKS.due("starts its home", x.told(0, 0, 0), Acts.AWAKE);
        CHECKS.due("but not the type", x.told(0, 2, 0), Acts.ASLEEP);
        CHECKS.failureDue("a start that fails", x, Acts.ask(x, 0, 1, 0), 13);
        CHECKS.failureDue("a field that is not there", x, Acts.ask(x, 0, 2, 4), Acts.NOT_FOUND);
        CHECKS.due("a constant of a broken type", x.field(1, 2, true, 5), 1);
        CHECKS.due("is told", Acts.ask(x, 0, 1, 2), 5);
        CHECKS.due("all are uses", x.about(1), 5);
    }

    private static void setting() {
        ExtensionStarts x = Acts.classes(2);
        x.type(Acts.CLASS, 0, false);
        x.line(0, Acts.PUT, 0, 12, 0);
        x.line(1, Acts.PUT, 0, 3, 0);
        x.line(1, Acts.FAIL, 6, 0, 0);
        CHECKS.due("the home starts first", Acts.set(x, 0, 2, 0, -999), 12);
        CHECKS.due("the home is awake", x.told(0, 0, 0), Acts.AWAKE);
        CHECKS.due("the type is not", x.told(0, 2, 0), Acts.ASLEEP);
        CHECKS.due("what it was", Acts.set(x, 0, 0, 0, 999), -999);
        CHECKS.due("what it is", x.peek(0, 0, 0), 999);
        CHECKS.due("in another session", x.peek(1, 0, 0), 0);
        CHECKS.failureDue("a start that fails", x, Acts.set(x, 0, 1, 0, 50), 16);
        CHECKS.due("is not set", x.peek(0, 1, 0), 3);
        CHECKS.failureDue("broken", x, Acts.set(x, 0, 1, 0, 50), Acts.NOT_FOUND);
    }
}
