/** Counts the answers of one test that are not as due. */
final class Checks {
    private final String name;
    private int wrong;

    Checks(String name) {
        this.name = name;
    }

    void due(String what, long got, long want) {
        if (got != want) {
            wrong++;
            System.out.println(name + ": " + what + " answered " + got + ", due is " + want);
        }
    }

    void holds(String what, boolean truth) {
        due(what, truth ? 1 : 0, 1);
    }

    void noMessage(ExtensionStarts x, int i) {
        Class<?> thrown = null;
        try {
            x.message(i);
        } catch (RuntimeException e) {
            thrown = e.getClass();
        }
        holds("message(" + i + ") throws ArrayIndexOutOfBoundsException", thrown == ArrayIndexOutOfBoundsException.class);
    }

    /** A START as it was kept: TYPE, SESSION, FAILURE, number of the USE. */
    void startDue(ExtensionStarts x, int i, int type, int session, int failure, int use) {
        due("start(" + i + ", 0)", x.start(i, 0), type);
        due("start(" + i + ", 1)", x.start(i, 1), session);
        due("start(" + i + ", 2)", x.start(i, 2), failure);
        due("start(" + i + ", 3)", x.start(i, 3), use);
    }

    /** A USE that ends by a FAILURE. */
    void failureDue(String what, ExtensionStarts x, int answer, int failure) {
        due(what, answer, 0);
        due(what + ": failure()", x.failure(), failure);
    }

    void end() {
        if (wrong != 0) {
            System.out.println(name + ": " + wrong + " answers are not as due");
            System.exit(1);
        }
    }
}
