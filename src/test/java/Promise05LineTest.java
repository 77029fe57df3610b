/** Promise 5: LINES, their limits, and what they do not look at. */
public final class Promise05LineTest {
    private static final Checks CHECKS = new Checks("promise 5");
    private static final int ANY = 123456;

    public static void main(String[] args) {
        refusals();
        edges();
        limit();
        CHECKS.end();
    }

    private static void refusals() {
        ExtensionStarts x = Acts.classes(1);
        CHECKS.due("no such type", x.line(1, 9, 0, 0, 0), Acts.UNKNOWN);
        CHECKS.due("type -1", x.line(-1, 0, 0, 0, 0), Acts.UNKNOWN);
        int[][] outside = {
            {-1, 0, 0, 0}, {7, 0, 0, 0},
            {Acts.PUT, -1, 0, 0}, {Acts.PUT, 5, 0, 0}, {Acts.PUT, 0, 1000, 0}, {Acts.PUT, 0, -1000, 0},
            {Acts.ADD, -1, 0, 0}, {Acts.ADD, 5, 0, 0}, {Acts.ADD, 0, -1, 0}, {Acts.ADD, 0, 16, 0},
            {Acts.ADD, 0, 0, -1}, {Acts.ADD, 0, 0, 5},
            {Acts.MAKE, -1, 0, 0}, {Acts.MAKE, 16, 0, 0},
            {Acts.FAIL, -1, 0, 0}, {Acts.FAIL, 7, 0, 0},
            {Acts.WAIT, -1, 0, 0}, {Acts.WAIT, 1001, 0, 0},
            {Acts.TELL, -1000, 0, 0}, {Acts.TELL, 1000, 0, 0},
            {Acts.TRY, -1, 0, 0}, {Acts.TRY, 5, 0, 0}, {Acts.TRY, 0, -1, 0}, {Acts.TRY, 0, 16, 0},
        };
        for (int[] l : outside) {
            CHECKS.due("line " + java.util.Arrays.toString(l), x.line(0, l[0], l[1], l[2], l[3]), Acts.OUTSIDE);
        }
        CHECKS.due("refusals add nothing", x.line(0, Acts.TELL, 1, 0, 0), 1);
    }

    private static void edges() {
        int[][] fits = {
            {Acts.PUT, 4, 999, ANY}, {Acts.PUT, 0, -999, -ANY}, {Acts.ADD, 4, 15, 4}, {Acts.ADD, 0, 0, 0},
            {Acts.MAKE, 15, ANY, ANY}, {Acts.MAKE, 0, -ANY, -ANY}, {Acts.FAIL, 6, ANY, ANY}, {Acts.FAIL, 0, ANY, ANY},
            {Acts.WAIT, 1000, ANY, ANY}, {Acts.WAIT, 0, ANY, ANY}, {Acts.TELL, 999, ANY, ANY},
            {Acts.TELL, -999, ANY, ANY}, {Acts.TRY, 4, 15, ANY}, {Acts.TRY, 0, 0, -ANY},
        };
        ExtensionStarts x = Acts.classes(2);
        for (int i = 0; i < fits.length; i++) {
            int[] l = fits[i];
            CHECKS.due("line " + java.util.Arrays.toString(l), x.line(i % 2, l[0], l[1], l[2], l[3]), i / 2 + 1);
        }
    }

    private static void limit() {
        ExtensionStarts x = Acts.classes(2);
        for (int i = 1; i <= 8; i++) {
            CHECKS.due("line", x.line(0, Acts.TELL, i, 0, 0), i);
        }
        CHECKS.due("9th", x.line(0, Acts.TELL, 9, 0, 0), Acts.FULL);
        CHECKS.due("9th, outside first", x.line(0, Acts.TELL, 1000, 0, 0), Acts.OUTSIDE);
        CHECKS.due("another type has room", x.line(1, Acts.TELL, 9, 0, 0), 1);
        Acts.make(x, 0, 0);
        CHECKS.due("eight are done", x.about(3), 8);
        CHECKS.due("in order", x.message(7), 8);
    }
}
