/** Promise 3: FACES above TYPES, up to three, that came before. */
public final class Promise03FaceTest {
    private static final Checks CHECKS = new Checks("promise 3");

    public static void main(String[] args) {
        countsAndRefusals();
        sharing();
        facesAddedLater();
        orderChangesLater();
        CHECKS.end();
    }

    private static void countsAndRefusals() {
        ExtensionStarts x = new ExtensionStarts();
        for (int f = 0; f < 4; f++) {
            x.type(f % 2 == 0 ? Acts.FACE : Acts.FULL_FACE, Acts.NONE, false);
        }
        x.type(Acts.CLASS, Acts.NONE, false);
        x.type(Acts.CLASS, Acts.NONE, false);
        CHECKS.due("no such type", x.face(6, 0), Acts.UNKNOWN);
        CHECKS.due("type -1", x.face(-1, 0), Acts.UNKNOWN);
        CHECKS.due("no such face", x.face(5, 6), Acts.UNKNOWN);
        CHECKS.due("face -1", x.face(5, -1), Acts.UNKNOWN);
        CHECKS.due("a class as face", x.face(5, 4), Acts.UNKNOWN);
        CHECKS.due("a later face", x.face(0, 1), Acts.UNKNOWN);
        CHECKS.due("itself", x.face(1, 1), Acts.UNKNOWN);
        CHECKS.due("face above a face", x.face(2, 1), 1);
        CHECKS.due("first", x.face(5, 2), 1);
        CHECKS.due("again", x.face(5, 2), Acts.STATE);
        CHECKS.due("above by another only", x.face(5, 1), 2);
        CHECKS.due("third", x.face(5, 0), 3);
        CHECKS.due("fourth", x.face(5, 3), Acts.FULL);
        CHECKS.due("again, though full", x.face(5, 0), Acts.STATE);
        CHECKS.due("unknown, though full", x.face(5, 5), Acts.UNKNOWN);
        CHECKS.due("another type has room", x.face(4, 3), 1);
    }

    private static void sharing() {
        ExtensionStarts x = new ExtensionStarts();
        x.type(Acts.FACE, Acts.NONE, false);
        x.type(Acts.FACE, Acts.NONE, true);
        x.type(Acts.CLASS, Acts.NONE, true);
        x.type(Acts.CLASS, Acts.NONE, false);
        CHECKS.due("not shared above shared", x.face(2, 0), Acts.STATE);
        CHECKS.due("shared above shared", x.face(2, 1), 1);
        CHECKS.due("shared above not shared", x.face(3, 1), 1);
        CHECKS.due("not shared above not shared", x.face(3, 0), 2);
    }

    /** A FACE that comes above a FACE later is above what stands below that, too. */
    private static void facesAddedLater() {
        ExtensionStarts x = new ExtensionStarts();
        x.type(Acts.FULL_FACE, Acts.NONE, false);
        x.type(Acts.FACE, Acts.NONE, false);
        x.type(Acts.CLASS, Acts.NONE, false);
        x.type(Acts.CLASS, 2, false);
        x.field(0, 0, true, 5);
        x.face(2, 1);
        CHECKS.failureDue("not above yet", x, Acts.ask(x, 0, 3, 0), Acts.NOT_FOUND);
        x.face(1, 0);
        CHECKS.due("field by the new face", Acts.ask(x, 0, 3, 0), 5);
        CHECKS.due("made", Acts.make(x, 0, 3), 1);
        CHECKS.due("full face by the new way", x.told(0, 0, 0), Acts.AWAKE);
        CHECKS.due("the face between is not full", x.told(0, 1, 0), Acts.ASLEEP);
    }

    /** FACE 1 comes above FACE 2 when both are above the last of 16 TYPES: now it starts before FACE 0. */
    private static void orderChangesLater() {
        ExtensionStarts x = new ExtensionStarts();
        for (int f = 0; f < 3; f++) {
            x.type(Acts.FULL_FACE, Acts.NONE, false);
        }
        for (int t = 3; t < 16; t++) {
            x.type(Acts.CLASS, Acts.NONE, false);
        }
        x.face(15, 2);
        x.face(15, 0);
        x.face(15, 1);
        Acts.make(x, 0, 15);
        CHECKS.due("face(2, 1)", x.face(2, 1), 1);
        Acts.make(x, 1, 15);
        int[] due = {2, 0, 1, 15, 1, 2, 0, 15};
        for (int i = 0; i < due.length; i++) {
            CHECKS.due("start(" + i + ", 0)", x.start(i, 0), due[i]);
        }
    }
}
