/** Promises 17 and 18: count, digest. */
public final class AllTest {
    private static final Check CHECK = new Check();

    public static void main(String[] args) {
        count();
        countOfSafe();
        digest();
        CHECK.finish();
    }

    private static void dueCounts(String what, AimDesk x, int... due) {
        for (int i = 0; i < due.length; i++) {
            CHECK.due(what + ", count(" + i + ")", x.count(i), due[i]);
        }
    }

    private static void count() {
        AimDesk x = new AimDesk();
        CHECK.due("17: OUTSIDE 10", x.count(10), AimDesk.OUTSIDE);
        CHECK.due("17: OUTSIDE -1", x.count(-1), AimDesk.OUTSIDE);
        CHECK.due("17: OUTSIDE min", x.count(Integer.MIN_VALUE), AimDesk.OUTSIDE);
        dueCounts("17: no field", x, 0, 0, 0, 0, 1, 1, 0, 0, 0, 0);
        Check.write(x, "3;9,3;8,2;1,1");
        dueCounts("17: a page", x, 0, 0, 13, 0, 1, 1, 0, 0, 0, 0);
        x.field();
        dueCounts("17: a field", x, 3, 3, 0, 0, 1, 1, 0, 0, 1, 0);
        x.aim(0, 1);
        x.aim(1, 0);
        x.aim(1, 7);
        x.shade(2);
        x.stuck(0, true);
        x.stuck(2, true);
        Check.write(x, "2;");
        dueCounts("17: told", x, 3, 3, 2, 15, 1, 1, 2, 5, 1, 2);
        CHECK.due("17: a move", x.go(false), 0);
        dueCounts("17: a move", x, 3, 3, 2, 15, 1, 1, 2, 5, 1, 3);
        Check.write(x, "1,1");
        x.field();
        dueCounts("17: another field", x, 1, 2, 0, 0, 1, 1, 0, 0, 2, 3);
    }

    private static void countOfSafe() {
        AimDesk x = Check.desk("2;5,1;5,1");
        x.aim(0, 0);
        x.aim(1, 0);
        x.ceiling(1, 2);
        dueCounts("17: just safe", x, 2, 2, 0, 12, 1, 1);
        x.ceiling(1, 1);
        dueCounts("17: too hot", x, 2, 2, 0, 12, 0, 0);
        x.shade(2);
        dueCounts("17: safe under a cloud", x, 2, 2, 0, 6, 1, 0);
        x.shade(3);
        dueCounts("17: all under a cloud", x, 2, 2, 0, 0, 1, 0);
    }

    private static long digestByCalls(AimDesk x, String page) {
        long h = 1733;
        for (int mirror = 0; mirror < x.count(0); mirror++) {
            for (int what = 0; what <= 5; what++) {
                h = 31 * h + x.mirror(mirror, what);
            }
        }
        for (int patch = 0; patch < x.count(1); patch++) {
            for (int what = 0; what <= 3; what++) {
                h = 31 * h + x.patch(patch, what);
            }
        }
        if (x.count(0) > 0) {
            for (boolean steady : new boolean[] {false, true}) {
                for (int what : new int[] {0, 1, 10, 11, 12, 13, 14}) {
                    h = 31 * h + x.best(steady, what);
                }
                for (int what : new int[] {0, 10, 11, 12}) {
                    h = 31 * h + x.change(steady, what);
                }
            }
            for (int what = 0; what <= 2; what++) {
                h = 31 * h + x.trade(what);
            }
            h = 31 * h + x.relief();
        }
        for (int i = 0; i < page.length(); i++) {
            h = 31 * h + page.charAt(i);
        }
        for (int what = 0; what <= 9; what++) {
            h = 31 * h + x.count(what);
        }
        return h;
    }

    private static void digest() {
        AimDesk x = new AimDesk();
        CHECK.due("18: no field", x.digest(), digestByCalls(x, ""));
        long h = 1733L * 31 * 31 * 31 * 31;
        h = (h * 31 + 1) * 31 + 1;
        CHECK.due("18: by hand", x.digest(), h * 31 * 31 * 31 * 31);
        Check.write(x, "3;9,3;8,2;5,5");
        CHECK.due("18: a page", x.digest(), digestByCalls(x, "3;9,3;8,2;5,5"));
        x.field();
        CHECK.due("18: a field", x.digest(), digestByCalls(x, ""));
        x.aim(0, 0);
        x.aim(1, 2);
        x.shade(1);
        x.stuck(2, true);
        Check.write(x, "1~ ");
        CHECK.due("18: told", x.digest(), digestByCalls(x, "1~ "));
        x.go(false);
        CHECK.due("18: a move", x.digest(), digestByCalls(x, "1~ "));
        x.shade(0);
        x.ceiling(1, 1);
        CHECK.due("18: too hot", x.digest(), digestByCalls(x, "1~ "));
        x.stuck(2, false);
        x.stuck(1, true);
        x.ceiling(2, 0);
        CHECK.due("18: no BEST", x.best(true, 0), AimDesk.NONE);
        CHECK.due("18: without BEST", x.digest(), digestByCalls(x, "1~ "));
        digestOfUnlikePlans();
    }

    private static void digestOfUnlikePlans() {
        AimDesk x = Check.desk("3;9,3;8,2");
        x.aim(0, 0);
        x.stuck(0, true);
        x.shade(1);
        x.ceiling(0, 9);
        CHECK.due("18: caught", x.best(false, 0), 12);
        CHECK.due("18: caught, steady", x.best(true, 0), 10);
        CHECK.due("18: not steady, then steady", x.digest(), digestByCalls(x, ""));
    }
}
