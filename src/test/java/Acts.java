/** The numbers of the document by their names, so that the tests can be read. */
final class Acts {
    static final int NONE = ExtensionStarts.NONE, UNKNOWN = ExtensionStarts.UNKNOWN, OUTSIDE = ExtensionStarts.OUTSIDE,
        STATE = ExtensionStarts.STATE, FULL = ExtensionStarts.FULL;
    static final int CLASS = 0, FACE = 1, FULL_FACE = 2;
    static final int PUT = 0, ADD = 1, MAKE = 2, FAIL = 3, WAIT = 4, TELL = 5, TRY = 6;
    static final int MAKING = 0, ASKING = 1, SETTING = 2, ROW = 3;
    static final int ASLEEP = 0, AWAKE = 2, BROKEN = 3;
    static final int TIRED = 17, NOT_FOUND = 18;

    private Acts() {
    }

    static int make(ExtensionStarts x, int session, int type) {
        return x.use(session, type, MAKING, 0, 0);
    }

    static int ask(ExtensionStarts x, int session, int type, int f) {
        return x.use(session, type, ASKING, f, 0);
    }

    static int set(ExtensionStarts x, int session, int type, int f, int v) {
        return x.use(session, type, SETTING, f, v);
    }

    /** So many CLASSES without a PARENT, each with PLAIN FIELD 0. */
    static ExtensionStarts classes(int count) {
        ExtensionStarts x = new ExtensionStarts();
        for (int t = 0; t < count; t++) {
            x.type(CLASS, NONE, false);
            x.field(t, 0, false, 0);
        }
        return x;
    }
}
