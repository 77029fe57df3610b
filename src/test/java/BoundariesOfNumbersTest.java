/** "its own FIELD a grows by that (ints, wrapping)": at both ends of the ints. */
public final class BoundariesOfNumbersTest {
    private static final Checks CHECKS = new Checks("boundaries of numbers");
    private static final int HALF = 1 << 30;

    public static void main(String[] args) {
        growsToTheGreatestAndWraps();
        growsToTheLeastAndWraps();
        wrapsToZero();
        grownNumbersAreNotBoundBy999();
        CHECKS.end();
    }

    /**
     * TYPE 4's FIELD 0 is 2 to the 28th times the sign: each TYPE takes that of the one before and doubles it 7 times.
     * TYPE 5's FIELD 0 is 2 to the 30th times the sign, its FIELD 1 is the CONSTANT 1, its FIELD 2 the CONSTANT -1.
     */
    private static ExtensionStarts withHalf(int sign) {
        ExtensionStarts x = Acts.classes(7);
        x.line(0, Acts.PUT, 0, sign, 0);
        for (int t = 1; t <= 4; t++) {
            x.line(t, Acts.ADD, 0, t - 1, 0);
            for (int i = 0; i < 7; i++) {
                x.line(t, Acts.ADD, 0, t, 0);
            }
        }
        for (int i = 0; i < 4; i++) {
            x.line(5, Acts.ADD, 0, 4, 0);
        }
        x.field(5, 1, true, 1);
        x.field(5, 2, true, -1);
        return x;
    }

    private static void growsToTheGreatestAndWraps() {
        ExtensionStarts x = withHalf(1);
        CHECKS.due("half", Acts.ask(x, 0, 5, 0), HALF);
        x.line(6, Acts.ADD, 0, 5, 0);
        x.line(6, Acts.ADD, 0, 5, 2);
        x.line(6, Acts.ADD, 0, 5, 0);
        CHECKS.due("the greatest", Acts.ask(x, 1, 6, 0), Integer.MAX_VALUE);
        x.line(6, Acts.ADD, 0, 5, 1);
        CHECKS.due("one more", Acts.ask(x, 2, 6, 0), Integer.MIN_VALUE);
        x.line(6, Acts.ADD, 0, 5, 2);
        CHECKS.due("one less", Acts.ask(x, 3, 6, 0), Integer.MAX_VALUE);
        CHECKS.due("no failure", x.failure(), 0);
        CHECKS.due("is not 0", x.told(3, 6, 2), 1);
    }

    private static void growsToTheLeastAndWraps() {
        ExtensionStarts x = withHalf(-1);
        x.line(6, Acts.ADD, 0, 5, 0);
        x.line(6, Acts.ADD, 0, 5, 0);
        CHECKS.due("the least", Acts.ask(x, 0, 6, 0), Integer.MIN_VALUE);
        x.line(6, Acts.ADD, 0, 5, 2);
        CHECKS.due("one less", Acts.ask(x, 1, 6, 0), Integer.MAX_VALUE);
        CHECKS.due("what it was", Acts.set(x, 1, 6, 0, 0), Integer.MAX_VALUE);
        CHECKS.due("the least, looked at", x.peek(0, 6, 0), Integer.MIN_VALUE);
    }

    private static void wrapsToZero() {
        ExtensionStarts x = withHalf(1);
        for (int i = 0; i < 4; i++) {
            x.line(6, Acts.ADD, 0, 5, 0);
        }
        CHECKS.due("four halves", Acts.ask(x, 0, 6, 0), 0);
        CHECKS.due("are 0", x.told(0, 6, 2), 0);
    }

    private static void grownNumbersAreNotBoundBy999() {
        for (int sign : new int[] {-1, 1}) {
            ExtensionStarts x = Acts.classes(1);
            x.field(0, 1, true, sign);
            x.line(0, Acts.PUT, 0, 999 * sign, 0);
            x.line(0, Acts.ADD, 0, 0, 1);
            CHECKS.due("1000", Acts.ask(x, 0, 0, 0), 1000 * sign);
            x.line(0, Acts.ADD, 0, 0, 0);
            CHECKS.due("2000", Acts.ask(x, 1, 0, 0), 2000 * sign);
        }
    }
}
