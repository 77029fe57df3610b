import java.util.Random;

/** Long runs of calls, the same ones each time, on the class and on the model; every answer must be the same. */
public final class AgainstModelTest {
    private static final int RUNS = 3000, CALLS = 340;
    private static final int[] ODD = {-1, -2, 16, 5, 4, 1000, -1000, 100001, Integer.MIN_VALUE, Integer.MAX_VALUE};

    private final Checks checks = new Checks("against the model");
    private Random random;
    private ExtensionStarts x;
    private Model model;

    public static void main(String[] args) {
        AgainstModelTest test = new AgainstModelTest();
        for (int run = 0; run < RUNS; run++) {
            test.run(run);
        }
        test.checks.end();
    }

    private void run(int seed) {
        random = new Random(seed);
        x = new ExtensionStarts();
        model = new Model();
        int building = 60 + random.nextInt(200);
        for (int call = 0; call < CALLS; call++) {
            String where = "run " + seed + ", call " + call + ": ";
            if (random.nextInt(400) == 0) {
                checks.due(where + "clear()", x.clear(), model.clear());
            } else if (random.nextInt(10) < (call < building ? 9 : 1)) {
                build(where);
            } else if (random.nextInt(10) < 6) {
                useOrUndo(where);
            } else {
                look(where);
            }
        }
    }

    /** Mostly a number below the bound, now and then an odd one. */
    private int below(int bound) {
        return random.nextInt(60) == 0 ? ODD[random.nextInt(ODD.length)] : random.nextInt(bound);
    }

    private int aType() {
        return below(Math.max(1, model.about(0)));
    }

    private int aNumber() {
        return random.nextInt(60) == 0 ? below(3) * 1000 : random.nextInt(1999) - 999;
    }

    private void build(String where) {
        int t = aType();
        int pick = random.nextInt(100);
        if (pick < 20) {
            int kind = below(3);
            int parent = kind == 0 && random.nextInt(3) > 0 ? aType() : random.nextInt(20) == 0 ? 0 : -1;
            boolean shared = random.nextInt(4) == 0;
            checks.due(where + "type", x.type(kind, parent, shared), model.type(kind, parent, shared));
        } else if (pick < 40) {
            int face = aType();
            checks.due(where + "face", x.face(t, face), model.face(t, face));
        } else if (pick < 62) {
            int f = below(5);
            int v = aNumber();
            boolean constant = random.nextInt(5) == 0;
            checks.due(where + "field", x.field(t, f, constant, v), model.field(t, f, constant, v));
        } else {
            addLine(where, t);
        }
    }

    private void addLine(String where, int t) {
        int act = below(7);
        if (act == Acts.FAIL && random.nextInt(3) > 0) {
            act = Acts.ADD;
        }
        boolean ownField = act == Acts.PUT || act == Acts.ADD || act == Acts.TRY;
        int a = ownField ? below(5) : act == Acts.MAKE ? below(16) : act == Acts.FAIL ? below(7)
            : act == Acts.WAIT ? below(random.nextInt(3) == 0 ? 1001 : 10) : aNumber();
        int b = act == Acts.PUT ? aNumber() : below(16);
        int c = below(5);
        checks.due(where + "line", x.line(t, act, a, b, c), model.line(t, act, a, b, c));
    }

    private void useOrUndo(String where) {
        int s = below(4);
        int pick = random.nextInt(100);
        if (pick < 70) {
            int t = aType();
            int how = below(4);
            int f = below(5);
            int v = aNumber();
            checks.due(where + "use", x.use(s, t, how, f, v), model.use(s, t, how, f, v));
            checks.due(where + "failure", x.failure(), model.failure());
        } else if (pick < 85) {
            checks.due(where + "undo", x.undo(s), model.undo(s));
        } else if (pick < 95) {
            checks.due(where + "restart", x.restart(s), model.restart(s));
        } else {
            int n = random.nextInt(3) == 0 ? random.nextInt(30) : below(100001);
            checks.due(where + "steps", x.steps(s, n), model.steps(s, n));
        }
    }

    private void look(String where) {
        int s = below(4);
        int t = aType();
        int what = below(5);
        switch (random.nextInt(6)) {
            case 0:
                checks.due(where + "told", x.told(s, t, what), model.told(s, t, what));
                break;
            case 1:
                checks.due(where + "peek", x.peek(s, t, what), model.peek(s, t, what));
                break;
            case 2:
                int i = below(model.about(2) + 1);
                checks.due(where + "start", x.start(i, what), model.start(i, what));
                break;
            case 3:
                lookAtMessage(where, below(model.about(3) + 1));
                break;
            default:
                checks.due(where + "about", x.about(what), model.about(what));
        }
    }

    private void lookAtMessage(String where, int i) {
        Integer want = model.message(i);
        if (want == null) {
            checks.noMessage(x, i);
        } else {
            checks.due(where + "message", x.message(i), want);
        }
    }
}
