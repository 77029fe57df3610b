/**
 * Every call with all combinations of arguments at and around their edges, on the class and on the model. Both go on
 * from round to round (of up to three calls), and are made anew before an object's 512 calls are used up.
 */
public final class EdgeArgumentsTest {
    private static final int LEAST = Integer.MIN_VALUE, MOST = Integer.MAX_VALUE, ROUNDS_OF_A_PAIR = 120;
    private static final int[] SESSIONS = {LEAST, -1, 0, 3, 4, MOST};
    private static final int[] TYPES = {LEAST, -1, 0, 1, 2, 3, 4, 5, 6, 15, 16, MOST};
    private static final int[] FIELDS = {LEAST, -1, 0, 1, 2, 4, 5, MOST};
    private static final int[] NUMBERS = {LEAST, -1000, -999, 0, 999, 1000, MOST};
    private static final int[] KINDS = {LEAST, -1, 0, 1, 2, 3, MOST};
    private static final int[] ACTS = {LEAST, -1, 0, 1, 2, 3, 4, 5, 6, 7, MOST};
    private static final int[] OF_LINES =
        {LEAST, -1000, -999, -1, 0, 4, 5, 6, 7, 15, 16, 999, 1000, 1001, MOST};
    private static final int[] STEPS = {LEAST, -1, 0, 1, 1000, 100000, 100001, MOST};
    private static final int[] SMALL = {LEAST, -1, 0, 1, 2, 3, 4, 5, 6, MOST};
    private static final boolean[] BOTH = {false, true};

    private final Checks checks = new Checks("edge arguments");
    private int stage;
    private int rounds;
    private ExtensionStarts x;
    private Model model;

    public static void main(String[] args) {
        EdgeArgumentsTest test = new EdgeArgumentsTest();
        for (int stage = 0; stage < 3; stage++) {
            test.stage = stage;
            test.rounds = ROUNDS_OF_A_PAIR;
            test.building();
            test.lines();
            test.uses();
            test.looks();
            test.sessions();
        }
        test.checks.end();
    }

    /** Stage 0: no TYPES; 1: five of different kinds; 2: all 16, those with all their FACES and LINES among them. */
    private void next() {
        rounds++;
        if (rounds < ROUNDS_OF_A_PAIR) {
            return;
        }
        rounds = 0;
        x = new ExtensionStarts();
        model = new Model();
        if (stage == 0) {
            return;
        }
        type(Acts.CLASS, Acts.NONE, true);
        type(Acts.FACE, Acts.NONE, false);
        type(Acts.FULL_FACE, Acts.NONE, true);
        type(Acts.CLASS, 0, false);
        type(Acts.CLASS, 3, false);
        face(3, 1);
        face(4, 2);
        for (int t = 0; t < 5; t++) {
            field(t, t, false, 0);
            field(t, (t + 1) % 5, true, 10 * t);
            line(t, Acts.PUT, t, 20 + t, 0);
        }
        line(3, Acts.FAIL, 2, 0, 0);
        for (int t = 5; stage == 2 && t < 16; t++) {
            type(t % 3, Acts.NONE, t % 2 == 0);
        }
        fillUp();
    }

    private void fillUp() {
        for (int face = 5; stage == 2 && face < 15; face++) {
            face(15, face);
        }
        for (int i = 0; stage == 2 && i < 8; i++) {
            line(0, Acts.TELL, i, 0, 0);
            line(15, Acts.ADD, 0, i, 0);
        }
    }

    private void building() {
        for (int a : TYPES) {
            for (int b : KINDS) {
                for (boolean shared : BOTH) {
                    next();
                    type(b, a, shared);
                }
            }
            for (int b : TYPES) {
                next();
                face(a, b);
            }
            for (int f : FIELDS) {
                for (int v : NUMBERS) {
                    for (boolean constant : BOTH) {
                        next();
                        field(a, f, constant, v);
                    }
                }
            }
        }
    }

    private void lines() {
        for (int t : TYPES) {
            for (int act : ACTS) {
                for (int a : OF_LINES) {
                    for (int b : OF_LINES) {
                        for (int c : FIELDS) {
                            next();
                            line(t, act, a, b, c);
                        }
                    }
                }
            }
        }
    }

    private void uses() {
        for (int s : SESSIONS) {
            for (int t : TYPES) {
                for (int how : SMALL) {
                    for (int f : FIELDS) {
                        for (int v : NUMBERS) {
                            next();
                            due("use(" + s + ", " + t + ", " + how + ", " + f + ", " + v + ")",
                                x.use(s, t, how, f, v), model.use(s, t, how, f, v));
                            due("failure()", x.failure(), model.failure());
                        }
                    }
                }
            }
        }
    }

    private void looks() {
        for (int s : SESSIONS) {
            for (int t : TYPES) {
                for (int what : SMALL) {
                    next();
                    useSome();
                    due("told(" + s + ", " + t + ", " + what + ")", x.told(s, t, what), model.told(s, t, what));
                    due("peek(" + s + ", " + t + ", " + what + ")", x.peek(s, t, what), model.peek(s, t, what));
                }
            }
        }
        for (int i : SMALL) {
            for (int what : SMALL) {
                next();
                useSome();
                due("start(" + i + ", " + what + ")", x.start(i, what), model.start(i, what));
                due("about(" + what + ")", x.about(what), model.about(what));
            }
            if (model.message(i) == null) {
                checks.noMessage(x, i);
            } else {
                due("message(" + i + ")", x.message(i), model.message(i));
            }
        }
    }

    /** Once for each pair, so that there is something to be looked at. */
    private void useSome() {
        for (int t = 0; rounds == 0 && t < 16; t++) {
            due("use of " + t, x.use(t % 4, t, Acts.MAKING, 0, 0), model.use(t % 4, t, Acts.MAKING, 0, 0));
            due("use of " + t, x.use(3, t, Acts.ASKING, 0, 0), model.use(3, t, Acts.ASKING, 0, 0));
        }
    }

    private void sessions() {
        for (int s : SESSIONS) {
            for (int n : STEPS) {
                next();
                useSome();
                due("steps(" + s + ", " + n + ")", x.steps(s, n), model.steps(s, n));
                due("undo(" + s + ")", x.undo(s), model.undo(s));
                due("told", x.told(3, 0, 1), model.told(3, 0, 1));
            }
            due("restart(" + s + ")", x.restart(s), model.restart(s));
        }
        due("clear()", x.clear(), model.clear());
        due("clear()", x.clear(), model.clear());
    }

    private void due(String call, int got, int want) {
        checks.due("stage " + stage + ": " + call, got, want);
    }

    private void type(int kind, int parent, boolean shared) {
        due("type(" + kind + ", " + parent + ", " + shared + ")", x.type(kind, parent, shared),
            model.type(kind, parent, shared));
    }

    private void face(int t, int face) {
        due("face(" + t + ", " + face + ")", x.face(t, face), model.face(t, face));
    }

    private void field(int t, int f, boolean constant, int v) {
        due("field(" + t + ", " + f + ", " + constant + ", " + v + ")", x.field(t, f, constant, v),
            model.field(t, f, constant, v));
    }

    private void line(int t, int act, int a, int b, int c) {
        due("line(" + t + ", " + act + ", " + a + ", " + b + ", " + c + ")", x.line(t, act, a, b, c),
            model.line(t, act, a, b, c));
    }
}
