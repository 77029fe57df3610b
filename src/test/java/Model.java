import java.util.ArrayList;
import java.util.HashMap;
import java.util.List;
import java.util.Map;

/**
 * The document said a second time, as literally as can be: plain recursion, maps and exceptions, no limit on what it
 * costs. AgainstModelTest compares the class with it.
 */
final class Model {
    private static final class Failed extends RuntimeException {
        private static final long serialVersionUID = 1L;
        final int failure;

        Failed(int failure) {
            this.failure = failure;
        }
    }

    private static final class Told {
        int kind;
        int parent;
        boolean shared;
        final List<Integer> faces = new ArrayList<>();
        final Map<Integer, Integer> constants = new HashMap<>();
        final List<Integer> plain = new ArrayList<>();
        final List<int[]> lines = new ArrayList<>();
    }

    private record Use(int session, int made, int writes) { }

    private List<Told> types;
    private Map<String, Integer> states;
    private Map<String, Integer> numbers;
    private Map<String, Integer> things;
    private List<int[]> starts;
    private List<Integer> messages;
    private List<Use> toUndo;
    private int[] left;
    private int uses;
    private int taken;
    private int latestFailure;
    private int written;

    Model() {
        clear();
    }

    int clear() {
        int had = types == null ? 0 : types.size();
        types = new ArrayList<>();
        states = new HashMap<>();
        numbers = new HashMap<>();
        things = new HashMap<>();
        starts = new ArrayList<>();
        messages = new ArrayList<>();
        toUndo = new ArrayList<>();
        left = new int[] {1000, 1000, 1000, 1000};
        uses = taken = latestFailure = 0;
        return had;
    }

    int type(int kind, int parent, boolean shared) {
        if (kind < 0 || kind > 2) return Acts.OUTSIDE;
        if (kind != 0 && parent != -1) return Acts.UNKNOWN;
        if (parent != -1 && (noType(parent) || types.get(parent).kind != 0)) return Acts.UNKNOWN;
        if (shared && parent != -1 && !types.get(parent).shared) return Acts.STATE;
        if (types.size() == 16) return Acts.FULL;
        Told told = new Told();
        told.kind = kind;
        told.parent = parent;
        told.shared = shared;
        types.add(told);
        return types.size() - 1;
    }

    int face(int type, int face) {
        if (noType(type) || noType(face) || types.get(face).kind == 0 || face >= type) return Acts.UNKNOWN;
        Told told = types.get(type);
        if (told.shared && !types.get(face).shared) return Acts.STATE;
        if (told.faces.contains(face)) return Acts.STATE;
        if (told.faces.size() == 3) return Acts.FULL;
        told.faces.add(face);
        return told.faces.size();
    }

    int field(int type, int f, boolean constant, int v) {
        if (noType(type)) return Acts.UNKNOWN;
        if (f < 0 || f > 4) return Acts.OUTSIDE;
        if (constant && Math.abs((long) v) > 999) return Acts.OUTSIDE;
        Told told = types.get(type);
        told.plain.remove((Integer) f);
        told.constants.remove(f);
        if (constant) told.constants.put(f, v);
        else told.plain.add(f);
        return constant ? 1 : 0;
    }

    int line(int type, int act, int a, int b, int c) {
        if (noType(type)) return Acts.UNKNOWN;
        if (act < 0 || act > 6) return Acts.OUTSIDE;
        boolean ownField = act == 0 || act == 1 || act == 6;
        if (ownField && (a < 0 || a > 4) || act == 1 && (c < 0 || c > 4)) return Acts.OUTSIDE;
        if (act == 0 && Math.abs((long) b) > 999) return Acts.OUTSIDE;
        if ((act == 1 || act == 6) && (b < 0 || b > 15) || act == 2 && (a < 0 || a > 15)) return Acts.OUTSIDE;
        if (act == 3 && (a < 0 || a > 6) || act == 4 && (a < 0 || a > 1000)) return Acts.OUTSIDE;
        if (act == 5 && Math.abs((long) a) > 999) return Acts.OUTSIDE;
        if (types.get(type).lines.size() == 8) return Acts.FULL;
        types.get(type).lines.add(new int[] {act, a, b, c});
        return types.get(type).lines.size();
    }

    int use(int session, int type, int how, int f, int v) {
        if (noSession(session) || noType(type)) return Acts.UNKNOWN;
        if (how < 0 || how > 3) return Acts.OUTSIDE;
        if ((how == 1 || how == 2) && (f < 0 || f > 4)) return Acts.OUTSIDE;
        if (how == 2 && Math.abs((long) v) > 999) return Acts.OUTSIDE;
        if (how == 0 && types.get(type).kind != 0) return Acts.STATE;
        if (how == 2 && (home(type, f) == -1 || !types.get(home(type, f)).plain.contains(f))) return Acts.STATE;
        uses++;
        written = 0;
        int made = -1;
        int answer = 0;
        latestFailure = 0;
        try {
            if (how == 0) {
                made(session, type);
                made = type;
                answer = things.get(session + " " + type);
            } else if (how == 1 || how == 2) {
                answer = asked(session, type, f);
            }
            if (how == 2) becomes(session, home(type, f), f, v);
        } catch (Failed failed) {
            latestFailure = failed.failure;
            answer = 0;
        }
        toUndo.add(new Use(session, made, written));
        return answer;
    }

    private void made(int session, int type) {
        if (noType(type) || types.get(type).kind != 0) throw new Failed(18);
        started(session, type);
        things.merge(session + " " + type, 1, Integer::sum);
    }

    private int asked(int session, int type, int f) {
        if (noType(type)) throw new Failed(18);
        int home = home(type, f);
        if (home == -1) throw new Failed(18);
        if (types.get(home).constants.containsKey(f)) return types.get(home).constants.get(f);
        started(session, home);
        return number(session, home, f);
    }

    private int home(int type, int f) {
        Told told = types.get(type);
        if (told.constants.containsKey(f) || told.plain.contains(f)) return type;
        for (int face : told.faces) {
            int home = home(face, f);
            if (home != -1) return home;
        }
        return told.parent == -1 ? -1 : home(told.parent, f);
    }

    private void started(int session, int type) {
        String key = key(session, type);
        int state = states.getOrDefault(key, 0);
        if (state == 1 || state == 2) return;
        if (state == 3) throw new Failed(18);
        states.put(key, 1);
        try {
            if (types.get(type).kind == 0) {
                if (types.get(type).parent != -1) started(session, types.get(type).parent);
                fullOnesAbove(session, type);
            }
            for (int[] line : types.get(type).lines) done(session, type, line);
        } catch (Failed failed) {
            states.put(key, 3);
            keep(type, session, failed.failure);
            throw failed;
        }
        states.put(key, 2);
        keep(type, session, 0);
    }

    private void fullOnesAbove(int session, int type) {
        for (int face : types.get(type).faces) {
            fullOnesAbove(session, face);
            if (types.get(face).kind == 2) started(session, face);
        }
    }

    private void keep(int type, int session, int failure) {
        if (starts.size() < 150) starts.add(new int[] {type, session, failure, uses});
    }

    private void done(int session, int type, int[] line) {
        int a = line[1];
        int cost = line[0] == 4 ? a + 1 : 1;
        if (left[session] < cost) throw new Failed(17);
        left[session] -= cost;
        taken += cost;
        if (line[0] == 0) becomes(session, type, a, line[2]);
        if (line[0] == 1) {
            int by = asked(session, line[2], line[3]);
            becomes(session, type, a, number(session, type, a) + by);
        }
        if (line[0] == 2) made(session, a);
        if (line[0] == 3) throw new Failed(10 + a);
        if (line[0] == 5 && messages.size() < 100) messages.add(a);
        if (line[0] == 6) {
            int failure = 0;
            try {
                made(session, line[2]);
            } catch (Failed failed) {
                failure = failed.failure;
            }
            becomes(session, type, a, failure);
        }
    }

    private void becomes(int session, int type, int f, int v) {
        if (!types.get(type).plain.contains(f)) throw new Failed(12);
        numbers.put(key(session, type) + " " + f, v);
        written++;
    }

    private int number(int session, int type, int f) {
        return numbers.getOrDefault(key(session, type) + " " + f, 0);
    }

    private String key(int session, int type) {
        return (types.get(type).shared ? "all" : session + "") + " " + type;
    }

    int failure() {
        return latestFailure;
    }

    int told(int session, int type, int what) {
        if (noSession(session) || noType(type)) return Acts.UNKNOWN;
        if (what == 0) return states.getOrDefault(key(session, type), 0);
        if (what == 1) return things.getOrDefault(session + " " + type, 0);
        if (what != 2) return Acts.OUTSIDE;
        return (int) types.get(type).plain.stream().filter(f -> number(session, type, f) != 0).count();
    }

    int peek(int session, int type, int f) {
        if (noSession(session) || noType(type)) return Acts.UNKNOWN;
        return types.get(type).plain.contains(f) ? number(session, type, f) : Acts.STATE;
    }

    int start(int i, int what) {
        if (i < 0 || i >= starts.size()) return Acts.NONE;
        return what < 0 || what > 3 ? Acts.OUTSIDE : starts.get(i)[what];
    }

    /** The MESSAGE, or null where the class throws. */
    Integer message(int i) {
        return i < 0 || i >= messages.size() ? null : messages.get(i);
    }

    int steps(int session, int n) {
        if (noSession(session)) return Acts.UNKNOWN;
        if (n < 0 || n > 100000) return Acts.OUTSIDE;
        int had = left[session];
        left[session] = n;
        return had;
    }

    int undo(int session) {
        if (noSession(session)) return Acts.UNKNOWN;
        for (int i = toUndo.size() - 1; i >= 0; i--) {
            Use use = toUndo.get(i);
            if (use.session == session) {
                toUndo.remove(i);
                if (use.made != -1) things.merge(session + " " + use.made, -1, Integer::sum);
                return use.writes;
            }
        }
        return Acts.NONE;
    }

    int restart(int session) {
        if (noSession(session)) return Acts.UNKNOWN;
        String own = session + " ";
        int count = (int) states.keySet().stream().filter(key -> key.startsWith(own)).count();
        states.keySet().removeIf(key -> key.startsWith(own));
        numbers.keySet().removeIf(key -> key.startsWith(own));
        things.keySet().removeIf(key -> key.startsWith(own));
        toUndo.removeIf(use -> use.session == session);
        return count;
    }

    int about(int what) {
        int[] all = {types.size(), uses, starts.size(), messages.size(), taken};
        return what < 0 || what > 4 ? Acts.OUTSIDE : all[what];
    }

    private boolean noType(int t) {
        return t < 0 || t >= types.size();
    }

    private boolean noSession(int s) {
        return s < 0 || s > 3;
    }
}
