/** Promise 8: how a TYPE is, its things, and its PLAIN FIELDS that are not 0. */
public final class Promise08ToldTest {
    public static void main(String[] args) {
        Checks checks = new Checks("promise 8");
        ExtensionStarts x = Acts.classes(2);
        x.line(1, Acts.FAIL, 0, 0, 0);
        checks.due("session -1", x.told(-1, 0, 0), Acts.UNKNOWN);
        checks.due("session 4", x.told(4, 0, 9), Acts.UNKNOWN);
        checks.due("type -1", x.told(0, -1, 0), Acts.UNKNOWN);
        checks.due("type 2", x.told(0, 2, 9), Acts.UNKNOWN);
        checks.due("what -1", x.told(0, 0, -1), Acts.OUTSIDE);
        checks.due("what 3", x.told(0, 0, 3), Acts.OUTSIDE);
        checks.due("asleep", x.told(0, 0, 0), Acts.ASLEEP);
        Acts.make(x, 0, 0);
        Acts.make(x, 0, 1);
        checks.due("awake", x.told(0, 0, 0), Acts.AWAKE);
        checks.due("broken", x.told(0, 1, 0), Acts.BROKEN);
        checks.due("asleep elsewhere", x.told(1, 0, 0), Acts.ASLEEP);
        checks.due("things", x.told(0, 0, 1), 1);
        checks.due("no thing of a broken one", x.told(0, 1, 1), 0);
        checks.due("things elsewhere", x.told(1, 0, 1), 0);
        for (int f = 1; f < 5; f++) {
            x.field(0, f, false, 0);
            Acts.set(x, 0, 0, f, -f);
        }
        checks.due("four are not 0", x.told(0, 0, 2), 4);
        x.field(0, 4, true, 9);
        checks.due("a constant does not count", x.told(0, 0, 2), 3);
        Acts.set(x, 0, 0, 3, 0);
        checks.due("two are not 0", x.told(0, 0, 2), 2);
        checks.due("elsewhere none", x.told(1, 0, 2), 0);
        checks.due("nothing is started", x.told(1, 0, 0), Acts.ASLEEP);
        checks.end();
    }
}
