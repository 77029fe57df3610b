import java.util.Arrays;

/**
 * Starts of classes that extend a story, session by session: which uses start which types, what fails and how, and
 * what undoing leaves. The words of the comments (TYPE, FACE, STARTED ..) are those of the document.
 */
public final class ExtensionStarts {
    public static final int NONE = -1, UNKNOWN = -101, OUTSIDE = -102, STATE = -103, FULL = -104;

    private static final int MOST_TYPES = 16, MOST_FACES = 3, MOST_LINES = 8, FIELDS = 5, SESSIONS = 4;
    private static final int MOST_STARTS = 150, MOST_MESSAGES = 100, MOST_USES = 512;
    private static final int MOST_NUMBER = 999, MOST_WAIT = 1000, MOST_STEPS = 100000, STEPS_AT_FIRST = 1000;

    private static final int CLASS = 0, FULL_FACE = 2;
    private static final int ABSENT = 0, CONSTANT = 1, PLAIN = 2;
    private static final int ASLEEP = 0, STARTING = 1, AWAKE = 2, BROKEN = 3;
    private static final int PUT = 0, ADD = 1, MAKE = 2, FAIL = 3, WAIT = 4, TELL = 5, TRY = 6;
    private static final int MAKING = 0, ASKING = 1, SETTING = 2, ROW = 3;

    private static final int ERROR_CAUSE = 6;
    private static final int FINE = 0, BY_CAUSE = 10, NO_PLAIN_FIELD = 12, TIRED = 17, NOT_FOUND = 18;

    private final Type[] types = new Type[MOST_TYPES];
    private final Session[] sessions = new Session[SESSIONS];
    private final Place common = new Place();
    private final Uses uses = new Uses();
    private final Kept kept = new Kept();
    private int typeCount;
    private int stepsTaken;
    private int latestFailure;

    // Of the USE under way: its SESSION, how often it wrote a FIELD, and what was asked last.
    private int here;
    private int writes;
    private int answer;

    public ExtensionStarts() {
        for (int t = 0; t < MOST_TYPES; t++) {
            types[t] = new Type();
        }
        for (int s = 0; s < SESSIONS; s++) {
            sessions[s] = new Session();
        }
    }

    public int type(int kind, int parent, boolean shared) {
        if (!within(kind, CLASS, FULL_FACE)) {
            return OUTSIDE;
        }
        if (parent != NONE && (kind != CLASS || !isClass(parent))) {
            return UNKNOWN;
        }
        if (shared && parent != NONE && !types[parent].shared) {
            return STATE;
        }
        if (typeCount >= MOST_TYPES) {
            return FULL;
        }
        int number = typeCount;
        types[number].begin(kind, parent, shared);
        arrange(number);
        typeCount++;
        return number;
    }

    public int face(int type, int face) {
        if (!isType(type) || !isType(face) || face >= type || types[face].kind == CLASS) {
            return UNKNOWN;
        }
        Type below = types[type];
        if ((below.shared && !types[face].shared) || below.faces.has(face)) {
            return STATE;
        }
        if (below.faces.count >= MOST_FACES) {
            return FULL;
        }
        below.faces.addOnce(face);
        // Only this TYPE and later ones can have the FACE above them.
        for (int t = type; t < typeCount; t++) {
            arrange(t);
        }
        return below.faces.count;
    }

    public int field(int type, int f, boolean constant, int v) {
        if (!isType(type)) {
            return UNKNOWN;
        }
        if (!isField(f) || (constant && !isNumber(v))) {
            return OUTSIDE;
        }
        if (!constant) {
            types[type].fieldKinds[f] = PLAIN;
            return 0;
        }
        types[type].fieldKinds[f] = CONSTANT;
        types[type].constants[f] = v;
        return 1;
    }

    public int line(int type, int act, int a, int b, int c) {
        if (!isType(type)) {
            return UNKNOWN;
        }
        if (!isLine(act, a, b, c)) {
            return OUTSIDE;
        }
        if (types[type].lineCount >= MOST_LINES) {
            return FULL;
        }
        return types[type].addLine(act, a, b, c);
    }

    public int use(int session, int type, int how, int f, int v) {
        int refusal = refusalOfUse(session, type, how, f, v);
        if (refusal != FINE) {
            return refusal;
        }
        here = session;
        writes = 0;
        answer = 0;
        int number = uses.open(sessions[session].latestUse);
        sessions[session].latestUse = number;
        latestFailure = perform(type, how, f, v);
        boolean made = how == MAKING && latestFailure == FINE;
        uses.close(number, made ? type : NONE, writes);
        return latestFailure == FINE ? answer : 0;
    }

    public int failure() {
        return latestFailure;
    }

    public int told(int session, int type, int what) {
        if (!isSession(session) || !isType(type)) {
            return UNKNOWN;
        }
        switch (what) {
            case 0:
                return placeOf(session, type).states[type];
            case 1:
                return sessions[session].things[type];
            case 2:
                return countNotZero(session, type);
            default:
                return OUTSIDE;
        }
    }

    public int peek(int session, int type, int f) {
        if (!isSession(session) || !isType(type)) {
            return UNKNOWN;
        }
        if (!isField(f) || types[type].fieldKinds[f] != PLAIN) {
            return STATE;
        }
        return placeOf(session, type).numberOf(type, f);
    }

    public int start(int i, int what) {
        if (!within(i, 0, kept.startCount - 1)) {
            return NONE;
        }
        if (!within(what, 0, Kept.START_PARTS - 1)) {
            return OUTSIDE;
        }
        return kept.starts[i * Kept.START_PARTS + what];
    }

    public int message(int i) throws ArrayIndexOutOfBoundsException {
        if (!within(i, 0, kept.messageCount - 1)) {
            throw new ArrayIndexOutOfBoundsException("there is no such message");
        }
        return kept.messages[i];
    }

    public int steps(int session, int n) {
        if (!isSession(session)) {
            return UNKNOWN;
        }
        if (!within(n, 0, MOST_STEPS)) {
            return OUTSIDE;
        }
        int had = sessions[session].stepsLeft;
        sessions[session].stepsLeft = n;
        return had;
    }

    public int undo(int session) {
        if (!isSession(session)) {
            return UNKNOWN;
        }
        Session undone = sessions[session];
        int number = undone.latestUse;
        if (number == NONE) {
            return NONE;
        }
        undone.latestUse = uses.before[number];
        int made = uses.made[number];
        if (made != NONE) {
            undone.things[made]--;
        }
        return uses.writes[number];
    }

    public int restart(int session) {
        return isSession(session) ? sessions[session].forget() : UNKNOWN;
    }

    public int about(int what) {
        switch (what) {
            case 0:
                return typeCount;
            case 1:
                return uses.count;
            case 2:
                return kept.startCount;
            case 3:
                return kept.messageCount;
            case 4:
                return stepsTaken;
            default:
                return OUTSIDE;
        }
    }

    public int clear() {
        int had = typeCount;
        for (int s = 0; s < SESSIONS; s++) {
            sessions[s].forget();
            sessions[s].stepsLeft = STEPS_AT_FIRST;
        }
        common.forget();
        uses.count = 0;
        kept.startCount = 0;
        kept.messageCount = 0;
        typeCount = 0;
        stepsTaken = 0;
        latestFailure = FINE;
        return had;
    }

    private static boolean within(int n, int low, int high) {
        return n >= low && n <= high;
    }

    private static boolean isNumber(int v) {
        return within(v, -MOST_NUMBER, MOST_NUMBER);
    }

    private static boolean isField(int f) {
        return within(f, 0, FIELDS - 1);
    }

    private static boolean isSession(int s) {
        return within(s, 0, SESSIONS - 1);
    }

    private boolean isType(int t) {
        return within(t, 0, typeCount - 1);
    }

    private boolean isClass(int t) {
        return isType(t) && types[t].kind == CLASS;
    }

    /** A LINE may name a TYPE that is not there yet, so only the number is looked at. */
    private static boolean mayNameType(int t) {
        return within(t, 0, MOST_TYPES - 1);
    }

    private static boolean isLine(int act, int a, int b, int c) {
        switch (act) {
            case PUT:
                return isField(a) && isNumber(b);
            case ADD:
                return isField(a) && mayNameType(b) && isField(c);
            case MAKE:
                return mayNameType(a);
            case FAIL:
                return within(a, 0, ERROR_CAUSE);
            case WAIT:
                return within(a, 0, MOST_WAIT);
            case TELL:
                return isNumber(a);
            case TRY:
                return isField(a) && mayNameType(b);
            default:
                return false;
        }
    }

    private int refusalOfUse(int session, int type, int how, int f, int v) {
        if (!isSession(session) || !isType(type)) {
            return UNKNOWN;
        }
        boolean ofField = how == ASKING || how == SETTING;
        if (!within(how, MAKING, ROW) || (ofField && !isField(f)) || (how == SETTING && !isNumber(v))) {
            return OUTSIDE;
        }
        if ((how == MAKING && !isClass(type)) || (how == SETTING && !canBeSet(type, f))) {
            return STATE;
        }
        // No object has so many USES within its 512 calls; beyond them the answer is free.
        return uses.count >= MOST_USES ? FULL : FINE;
    }

    private boolean canBeSet(int type, int f) {
        int home = homeOf(type, f);
        return home != NONE && types[home].fieldKinds[f] == PLAIN;
    }

    private Place placeOf(int session, int type) {
        return types[type].shared ? common : sessions[session].place;
    }

    private int countNotZero(int session, int type) {
        Place place = placeOf(session, type);
        int count = 0;
        for (int f = 0; f < FIELDS; f++) {
            if (types[type].fieldKinds[f] == PLAIN && place.numberOf(type, f) != 0) {
                count++;
            }
        }
        return count;
    }

    /**
     * Keeps the order in which FIELDS are looked for and FULL FACES are STARTED. Each TYPE stands there once: looking
     * again finds nothing new, and a START that was tried has either ended what tried it or leaves nothing to do.
     */
    private void arrange(int t) {
        Type type = types[t];
        type.lookedIn.empty();
        type.fullFaces.empty();
        type.lookedIn.addOnce(t);
        for (int i = 0; i < type.faces.count; i++) {
            int f = type.faces.items[i];
            type.lookedIn.addAllOnce(types[f].lookedIn);
            type.fullFaces.addAllOnce(types[f].fullFaces);
            if (types[f].kind == FULL_FACE) {
                type.fullFaces.addOnce(f);
            }
        }
        if (type.parent != NONE) {
            type.lookedIn.addAllOnce(types[type.parent].lookedIn);
        }
    }

    private int homeOf(int type, int f) {
        Row lookedIn = types[type].lookedIn;
        for (int i = 0; i < lookedIn.count; i++) {
            if (types[lookedIn.items[i]].fieldKinds[f] != ABSENT) {
                return lookedIn.items[i];
            }
        }
        return NONE;
    }

    // From here on to the nested classes a method answers the FAILURE, or FINE.

    private int perform(int type, int how, int f, int v) {
        switch (how) {
            case MAKING:
                return makeAndCount(type);
            case ASKING:
                return ask(type, f, 0);
            case SETTING:
                return askAndSet(type, f, v);
            default:
                return FINE;
        }
    }

    private int makeAndCount(int type) {
        int failure = makeThing(type, 0);
        answer = sessions[here].things[type];
        return failure;
    }

    private int askAndSet(int type, int f, int v) {
        int home = homeOf(type, f);
        int failure = home == NONE ? NOT_FOUND : ask(type, f, 0);
        return failure == FINE ? write(home, f, v) : failure;
    }

    private int makeThing(int type, int depth) {
        if (!isClass(type)) {
            return NOT_FOUND;
        }
        int failure = wake(type, depth);
        if (failure == FINE) {
            sessions[here].things[type]++;
        }
        return failure;
    }

    private int ask(int type, int f, int depth) {
        int home = isType(type) ? homeOf(type, f) : NONE;
        if (home == NONE) {
            return NOT_FOUND;
        }
        if (types[home].fieldKinds[f] == CONSTANT) {
            answer = types[home].constants[f];
            return FINE;
        }
        int failure = wake(home, depth);
        if (failure == FINE) {
            answer = placeOf(here, home).numberOf(home, f);
        }
        return failure;
    }

    private int write(int type, int f, int v) {
        if (types[type].fieldKinds[f] != PLAIN) {
            return NO_PLAIN_FIELD;
        }
        placeOf(here, type).setNumber(type, f, v);
        writes++;
        return FINE;
    }

    /** The depth is that of STARTS within STARTS; a TYPE is in one of them at a time, so it stays below 16. */
    private int wake(int type, int depth) {
        int[] states = placeOf(here, type).states;
        if (states[type] == AWAKE || states[type] == STARTING) {
            return FINE;
        }
        if (states[type] == BROKEN || depth >= MOST_TYPES) {
            return NOT_FOUND;
        }
        states[type] = STARTING;
        int failure = wakeAbove(type, depth);
        if (failure == FINE) {
            failure = doLines(type, depth);
        }
        states[type] = failure == FINE ? AWAKE : BROKEN;
        kept.addStart(type, here, failure, uses.count);
        return failure;
    }

    private int wakeAbove(int t, int depth) {
        Type type = types[t];
        if (type.kind != CLASS) {
            return FINE;
        }
        int failure = type.parent == NONE ? FINE : wake(type.parent, depth + 1);
        for (int i = 0; failure == FINE && i < type.fullFaces.count; i++) {
            failure = wake(type.fullFaces.items[i], depth + 1);
        }
        return failure;
    }

    private int doLines(int type, int depth) {
        int failure = FINE;
        for (int i = 0; failure == FINE && i < types[type].lineCount; i++) {
            failure = doLine(type, i, depth);
        }
        return failure;
    }

    private int doLine(int t, int i, int depth) {
        Type type = types[t];
        int a = type.as[i];
        int b = type.bs[i];
        if (!takeSteps(type.acts[i] == WAIT ? 1 + a : 1)) {
            return TIRED;
        }
        switch (type.acts[i]) {
            case PUT:
                return write(t, a, b);
            case ADD:
                return askAndAdd(t, a, b, type.cs[i], depth + 1);
            case MAKE:
                return makeThing(a, depth + 1);
            case FAIL:
                return BY_CAUSE + a;
            case TELL:
                kept.addMessage(a);
                return FINE;
            case TRY:
                return write(t, a, makeThing(b, depth + 1));
            default:
                return FINE;
        }
    }

    private int askAndAdd(int own, int ownField, int type, int f, int depth) {
        int failure = ask(type, f, depth);
        return failure == FINE ? write(own, ownField, placeOf(here, own).numberOf(own, ownField) + answer) : failure;
    }

    private boolean takeSteps(int n) {
        if (sessions[here].stepsLeft < n) {
            return false;
        }
        sessions[here].stepsLeft -= n;
        stepsTaken += n;
        return true;
    }

    /** Numbers of TYPES in an order, each once. */
    private static final class Row {
        final int[] items = new int[MOST_TYPES];
        int count;
        private int bits;

        void empty() {
            count = 0;
            bits = 0;
        }

        boolean has(int type) {
            return ((bits >> type) & 1) != 0;
        }

        void addOnce(int type) {
            if (!has(type) && count < MOST_TYPES) {
                items[count] = type;
                count++;
                bits |= 1 << type;
            }
        }

        void addAllOnce(Row other) {
            for (int i = 0; i < other.count; i++) {
                addOnce(other.items[i]);
            }
        }
    }

    /** A TYPE as it was told: all but how it is in a SESSION. */
    private static final class Type {
        int kind;
        int parent = NONE;
        boolean shared;
        final Row faces = new Row();
        final Row lookedIn = new Row();
        final Row fullFaces = new Row();
        final int[] fieldKinds = new int[FIELDS];
        final int[] constants = new int[FIELDS];
        final int[] acts = new int[MOST_LINES];
        final int[] as = new int[MOST_LINES];
        final int[] bs = new int[MOST_LINES];
        final int[] cs = new int[MOST_LINES];
        int lineCount;

        void begin(int newKind, int newParent, boolean newShared) {
            kind = newKind;
            parent = newParent;
            shared = newShared;
            faces.empty();
            Arrays.fill(fieldKinds, ABSENT);
            lineCount = 0;
        }

        int addLine(int act, int a, int b, int c) {
            if (lineCount < MOST_LINES) {
                acts[lineCount] = act;
                as[lineCount] = a;
                bs[lineCount] = b;
                cs[lineCount] = c;
                lineCount++;
            }
            return lineCount;
        }
    }

    /** How TYPES are, and their FIELDS' numbers; these stay while a FIELD is CONSTANT. */
    private static final class Place {
        final int[] states = new int[MOST_TYPES];
        private final int[] numbers = new int[MOST_TYPES * FIELDS];

        int numberOf(int type, int f) {
            return numbers[type * FIELDS + f];
        }

        void setNumber(int type, int f, int v) {
            numbers[type * FIELDS + f] = v;
        }

        /** Answers how many TYPES were not ASLEEP. */
        int forget() {
            int count = 0;
            for (int t = 0; t < MOST_TYPES; t++) {
                if (states[t] != ASLEEP) {
                    count++;
                }
            }
            Arrays.fill(states, ASLEEP);
            Arrays.fill(numbers, 0);
            return count;
        }
    }

    /** What a SESSION has for itself; its things are its own even if their TYPE is SHARED. */
    private static final class Session {
        final Place place = new Place();
        final int[] things = new int[MOST_TYPES];
        int stepsLeft = STEPS_AT_FIRST;
        int latestUse = NONE;

        /** Answers how many TYPES were not ASLEEP. */
        int forget() {
            Arrays.fill(things, 0);
            latestUse = NONE;
            return place.forget();
        }
    }

    /** All USES in a row; each knows the one before it in its SESSION, so that undoing goes back along these. */
    private static final class Uses {
        final int[] before = new int[MOST_USES];
        final int[] made = new int[MOST_USES];
        final int[] writes = new int[MOST_USES];
        int count;

        int open(int latestOfSession) {
            int number = count;
            if (number >= MOST_USES) {
                return NONE;
            }
            before[number] = latestOfSession;
            count++;
            return number;
        }

        void close(int number, int madeType, int written) {
            if (within(number, 0, count - 1)) {
                made[number] = madeType;
                writes[number] = written;
            }
        }
    }

    /** STARTS and MESSAGES, as many as are kept. */
    private static final class Kept {
        static final int START_PARTS = 4;

        final int[] starts = new int[MOST_STARTS * START_PARTS];
        final int[] messages = new int[MOST_MESSAGES];
        int startCount;
        int messageCount;

        void addStart(int type, int session, int failure, int useNumber) {
            if (startCount >= MOST_STARTS) {
                return;
            }
            int at = startCount * START_PARTS;
            starts[at] = type;
            starts[at + 1] = session;
            starts[at + 2] = failure;
            starts[at + 3] = useNumber;
            startCount++;
        }

        void addMessage(int text) {
            if (messageCount < MOST_MESSAGES) {
                messages[messageCount] = text;
                messageCount++;
            }
        }
    }
}
