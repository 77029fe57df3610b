/** Promise 2: TYPES are numbered as they come; kinds, parents, sharing and the limit of 16. */
public final class Promise02TypeTest {
    private static final Checks CHECKS = new Checks("promise 2");

    public static void main(String[] args) {
        numbersAndParents();
        sharing();
        limit();
        CHECKS.end();
    }

    private static void numbersAndParents() {
        ExtensionStarts x = new ExtensionStarts();
        CHECKS.due("kind -1", x.type(-1, Acts.NONE, false), Acts.OUTSIDE);
        CHECKS.due("kind 3", x.type(3, Acts.NONE, false), Acts.OUTSIDE);
        CHECKS.due("kind before parent", x.type(3, 99, false), Acts.OUTSIDE);
        CHECKS.due("parent that is not there", x.type(Acts.CLASS, 0, false), Acts.UNKNOWN);
        CHECKS.due("class", x.type(Acts.CLASS, Acts.NONE, false), 0);
        CHECKS.due("itself as parent", x.type(Acts.CLASS, 1, false), Acts.UNKNOWN);
        CHECKS.due("class with a parent", x.type(Acts.CLASS, 0, false), 1);
        CHECKS.due("face", x.type(Acts.FACE, Acts.NONE, false), 2);
        CHECKS.due("full face", x.type(Acts.FULL_FACE, Acts.NONE, false), 3);
        CHECKS.due("face as parent", x.type(Acts.CLASS, 2, false), Acts.UNKNOWN);
        CHECKS.due("full face as parent", x.type(Acts.CLASS, 3, false), Acts.UNKNOWN);
        CHECKS.due("face with a parent", x.type(Acts.FACE, 0, false), Acts.UNKNOWN);
        CHECKS.due("full face with a parent", x.type(Acts.FULL_FACE, 0, false), Acts.UNKNOWN);
        CHECKS.due("face with no such parent", x.type(Acts.FACE, 50, false), Acts.UNKNOWN);
        CHECKS.due("parent -2", x.type(Acts.CLASS, -2, false), Acts.UNKNOWN);
        CHECKS.due("parent of least int", x.type(Acts.CLASS, Integer.MIN_VALUE, false), Acts.UNKNOWN);
        CHECKS.due("refusals add nothing", x.about(0), 4);
        CHECKS.due("asleep at first", x.told(3, 1, 0), Acts.ASLEEP);
    }

    private static void sharing() {
        ExtensionStarts x = Acts.classes(1);
        CHECKS.due("shared below not shared", x.type(Acts.CLASS, 0, true), Acts.STATE);
        CHECKS.due("shared", x.type(Acts.CLASS, Acts.NONE, true), 1);
        CHECKS.due("shared below shared", x.type(Acts.CLASS, 1, true), 2);
        CHECKS.due("not shared below shared", x.type(Acts.CLASS, 1, false), 3);
        CHECKS.due("shared face", x.type(Acts.FACE, Acts.NONE, true), 4);
    }

    private static void limit() {
        ExtensionStarts x = Acts.classes(16);
        CHECKS.due("17th", x.type(Acts.CLASS, Acts.NONE, false), Acts.FULL);
        CHECKS.due("17th, kind first", x.type(3, Acts.NONE, false), Acts.OUTSIDE);
        CHECKS.due("17th, parent first", x.type(Acts.CLASS, 16, false), Acts.UNKNOWN);
        CHECKS.due("17th, sharing first", x.type(Acts.CLASS, 15, true), Acts.STATE);
        CHECKS.due("about(0)", x.about(0), 16);
    }
}
