/** Promises 10 and 11: mirror, patch. */
public final class LooksTest {
    private static final Check CHECK = new Check();

    public static void main(String[] args) {
        mirror();
        givenInAll();
        patch();
        heatByPlace();
        CHECK.finish();
    }

    private static void mirror() {
        CHECK.due("10: no field", new AimDesk().mirror(0, 0), AimDesk.UNKNOWN);
        AimDesk x = Check.desk("3;9,3;8,0");
        x.aim(1, 2);
        x.shade(2);
        x.stuck(0, true);
        int[] first = {9, 3, -1, 0, 1, 0};
        int[] second = {8, 0, 2, 1, 0, 0};
        for (int what = 0; what <= 5; what++) {
            CHECK.due("10: mirror(0, " + what + ")", x.mirror(0, what), first[what]);
            CHECK.due("10: mirror(1, " + what + ")", x.mirror(1, what), second[what]);
        }
        CHECK.due("10: UNKNOWN 2", x.mirror(2, 0), AimDesk.UNKNOWN);
        CHECK.due("10: UNKNOWN -1", x.mirror(-1, 0), AimDesk.UNKNOWN);
        CHECK.due("10: UNKNOWN ahead of OUTSIDE", x.mirror(2, 6), AimDesk.UNKNOWN);
        CHECK.due("10: OUTSIDE 6", x.mirror(0, 6), AimDesk.OUTSIDE);
        CHECK.due("10: OUTSIDE -1", x.mirror(0, -1), AimDesk.OUTSIDE);
        CHECK.due("10: OUTSIDE max", x.mirror(0, Integer.MAX_VALUE), AimDesk.OUTSIDE);
    }

    private static void givenInAll() {
        int[][] due = {{7}, {11, 11}, {11, 15, 11}, {11, 15, 15, 11}};
        for (int patches = 1; patches <= 4; patches++) {
            AimDesk x = Check.desk(patches + ";7,4");
            CHECK.due("10: away gives nothing", x.mirror(0, 5), 0);
            for (int aim = 0; aim < patches; aim++) {
                x.aim(0, aim);
                CHECK.due("10: at " + aim + " of " + patches, x.mirror(0, 5), due[patches - 1][aim]);
            }
        }
        AimDesk x = Check.desk("3;7,4");
        x.aim(0, 1);
        x.shade(1);
        CHECK.due("10: shaded gives nothing", x.mirror(0, 5), 0);
        CHECK.due("10: but keeps its aim", x.mirror(0, 2), 1);
    }

    private static void patch() {
        CHECK.due("11: no field", new AimDesk().patch(0, 0), AimDesk.UNKNOWN);
        AimDesk x = Check.desk("4;9,3;8,2;7,1");
        x.aim(0, 0);
        x.aim(1, 1);
        x.aim(2, 1);
        x.shade(2);
        x.ceiling(3, 7);
        int[][] due = {{10, 20, 12, 1}, {10, 20, 18, 2}, {1, 20, 3, 0}, {0, 7, 0, 0}};
        for (int patch = 0; patch < 4; patch++) {
            for (int what = 0; what <= 3; what++) {
                CHECK.due("11: patch(" + patch + ", " + what + ")", x.patch(patch, what), due[patch][what]);
            }
        }
        CHECK.due("11: UNKNOWN 4", x.patch(4, 0), AimDesk.UNKNOWN);
        CHECK.due("11: UNKNOWN -1", x.patch(-1, 0), AimDesk.UNKNOWN);
        CHECK.due("11: UNKNOWN ahead of OUTSIDE", x.patch(4, 4), AimDesk.UNKNOWN);
        CHECK.due("11: OUTSIDE 4", x.patch(3, 4), AimDesk.OUTSIDE);
        CHECK.due("11: OUTSIDE -1", x.patch(3, -1), AimDesk.OUTSIDE);
        CHECK.due("11: OUTSIDE min", x.patch(3, Integer.MIN_VALUE), AimDesk.OUTSIDE);
    }

    /** The most that can be given to each patch, and ceilings that are just enough and just not. */
    private static void heatByPlace() {
        for (int at = 0; at < 4; at++) {
            AimDesk x = Check.desk("4;9,9;9,9;9,9;9,9;9,9");
            for (int patch = 0; patch < 4; patch++) {
                x.ceiling(patch, 45);
            }
            for (int mirror = 0; mirror < 5; mirror++) {
                x.aim(mirror, at);
            }
            for (int patch = 0; patch < 4; patch++) {
                int heat = Math.abs(patch - at) <= 1 ? 45 : 0;
                CHECK.due("11: all at " + at + ", heat of " + patch, x.patch(patch, 0), heat);
                x.ceiling(patch, 44);
                CHECK.due("11: too hot just there", x.count(4), heat > 44 ? 0 : 1);
                x.ceiling(patch, 45);
            }
            CHECK.due("11: nothing too hot", x.count(4), 1);
        }
    }
}
