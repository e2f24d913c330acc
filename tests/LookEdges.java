/** Promises 10 and 11: mirror, patch. */
final class LookEdges extends EdgeCases {
    private static final int[] STRAY = {-1, 32, -32, 256, 65536, LEAST, MOST};

    // ---- promise 10

    @Edge(of = "Promise 10", words = "Of a MIRROR: what = 0 MIDDLE")
    static void leastAndMostMiddle() {
        AimDesk x = desk("1;1,9;9,0;5,5;1,0;9,9");
        due("mirror(0, 0)", x.mirror(0, 0), 1);
        due("mirror(1, 0)", x.mirror(1, 0), 9);
        due("mirror(4, 0)", x.mirror(4, 0), 9);
    }

    @Edge(of = "Promise 10", words = "1 SIDE")
    static void leastAndMostSide() {
        AimDesk x = desk("1;1,9;9,0;5,5;1,0;1,9");
        due("mirror(0, 1)", x.mirror(0, 1), 9);
        due("mirror(1, 1)", x.mirror(1, 1), 0);
        due("mirror(4, 1)", x.mirror(4, 1), 9);
    }

    @Edge(of = "Promise 10", words = "2 AIM")
    static void leastAndMostAim() {
        AimDesk x = desk("4;1,1;1,1");
        due("away", x.mirror(0, 2), -1);
        aims(x, 0, 3);
        due("the first patch", x.mirror(0, 2), 0);
        due("the last patch", x.mirror(1, 2), 3);
        x.shade(3);
        due("shaded it keeps its aim", x.mirror(1, 2), 3);
    }

    @Edge(of = "Promise 10", words = "3 whether it is SHADED (1, 0)")
    static void oneOrNoughtOfTheFirstAndTheLastShaded() {
        AimDesk x = desk(LARGEST);
        x.shade(16);
        due("mirror(4, 3)", x.mirror(4, 3), 1);
        due("mirror(0, 3)", x.mirror(0, 3), 0);
        x.shade(15);
        due("mirror(4, 3)", x.mirror(4, 3), 0);
        due("mirror(0, 3)", x.mirror(0, 3), 1);
    }

    @Edge(of = "Promise 10", words = "4 whether it is STUCK (1, 0)")
    static void oneOrNoughtOfTheFirstAndTheLastStuck() {
        AimDesk x = desk(LARGEST);
        x.stuck(4, true);
        due("mirror(4, 4)", x.mirror(4, 4), 1);
        due("mirror(0, 4)", x.mirror(0, 4), 0);
        x.stuck(4, false);
        x.stuck(0, true);
        due("mirror(4, 4)", x.mirror(4, 4), 0);
        due("mirror(0, 4)", x.mirror(0, 4), 1);
    }

    @Edge(of = "Promise 10", words = "5 what it gives to all PATCHES together.")
    static void nothingAwayOrShaded() {
        AimDesk x = desk("3;9,9");
        due("away", x.mirror(0, 5), 0);
        ceilings(x, 60, 60, 60);
        x.aim(0, 1);
        due("the most", x.mirror(0, 5), 27);
        x.shade(1);
        due("shaded", x.mirror(0, 5), 0);
    }

    @Edge(of = "Promise 10", words = "5 what it gives to all PATCHES together.")
    static void whatIsLostIsNotGiven() {
        int[][] due = {{7}, {11, 11}, {11, 15, 11}, {11, 15, 15, 11}};
        for (int patches = 1; patches <= 4; patches++) {
            AimDesk x = desk(patches + ";7,4");
            for (int aim = 0; aim < patches; aim++) {
                x.aim(0, aim);
                due("at " + aim + " of " + patches, x.mirror(0, 5), due[patches - 1][aim]);
            }
        }
    }

    @Edge(of = "Promise 10", words = "UNKNOWN: mirror")
    static void noSuchMirror() {
        String text = "1";
        for (int mirrors = 1; mirrors <= 5; mirrors++) {
            text += ";1,0";
            AimDesk x = desk(text);
            for (int what = 0; what <= 5; what++) {
                int asked = what;
                int behind = mirrors;
                refused(x, "mirror(" + mirrors + ", " + what + ")", UNKNOWN, () -> x.mirror(behind, asked));
                for (int mirror : STRAY) {
                    refused(x, "mirror(" + mirror + ", " + what + ")", UNKNOWN, () -> x.mirror(mirror, asked));
                }
            }
        }
    }

    @Edge(of = "Promise 10", words = "UNKNOWN: mirror")
    static void noMirrorWithoutAField() {
        AimDesk x = page("1;1,1");
        for (int what = 0; what <= 5; what++) {
            int asked = what;
            refused(x, "mirror(0, " + what + ")", UNKNOWN, () -> x.mirror(0, asked));
        }
    }

    @Edge(of = "Promise 10", words = "OUTSIDE: what.")
    static void whatIsOutsideOfAMirror() {
        AimDesk x = desk(LARGEST);
        for (int what : new int[] {-1, 6, 10, 256, LEAST, MOST}) {
            refused(x, "mirror(0, " + what + ")", OUTSIDE, () -> x.mirror(0, what));
            refused(x, "mirror(4, " + what + ")", OUTSIDE, () -> x.mirror(4, what));
        }
    }

    // ---- promise 11

    @Edge(of = "Promise 11", words = "Of a PATCH: what = 0 HEAT")
    static void noHeatAndTheMost() {
        AimDesk x = desk(LARGEST);
        ceilings(x, 60, 60, 60, 60);
        due("all away", x.patch(0, 0), 0);
        aims(x, 0, 0, 0, 0, 0);
        due("all at patch 0", x.patch(0, 0), 45);
        due("right beside it", x.patch(1, 0), 45);
        due("not beside it", x.patch(2, 0), 0);
        due("nor at the other end", x.patch(3, 0), 0);
    }

    @Edge(of = "Promise 11", words = "1 CEILING")
    static void leastAndMostCeiling() {
        AimDesk x = desk("4;1,1");
        x.ceiling(0, 0);
        x.ceiling(3, 60);
        due("patch(0, 1)", x.patch(0, 1), 0);
        due("patch(1, 1)", x.patch(1, 1), 20);
        due("patch(3, 1)", x.patch(3, 1), 60);
    }

    @Edge(of = "Promise 11", words = "2 HEAT if no MIRROR were SHADED")
    static void allShadedAndNoneShaded() {
        AimDesk x = desk(LARGEST);
        ceilings(x, 60, 60, 60, 60);
        aims(x, 3, 3, 3, 3, 3);
        x.shade(31);
        due("all shaded, patch(3, 2)", x.patch(3, 2), 45);
        due("all shaded, patch(3, 0)", x.patch(3, 0), 0);
        x.shade(0);
        due("none shaded, patch(3, 2)", x.patch(3, 2), 45);
        aims(x, -1, -1, -1, -1, -1);
        x.shade(31);
        due("all away, patch(3, 2)", x.patch(3, 2), 0);
    }

    @Edge(of = "Promise 11", words = "3 how many MIRRORS aim at it.")
    static void noneAndAllFive() {
        AimDesk x = desk(LARGEST);
        ceilings(x, 60, 60, 60, 60);
        due("none", x.patch(3, 3), 0);
        aims(x, 3, 3, 3, 3, 3);
        due("all five", x.patch(3, 3), 5);
        due("none beside it", x.patch(2, 3), 0);
        x.shade(31);
        due("shaded ones aim too", x.patch(3, 3), 5);
    }

    @Edge(of = "Promise 11", words = "UNKNOWN: patch")
    static void noSuchPatch() {
        for (int patches = 1; patches <= 4; patches++) {
            AimDesk x = desk(patches + ";1,1");
            for (int what = 0; what <= 3; what++) {
                int asked = what;
                int behind = patches;
                refused(x, "patch(" + patches + ", " + what + ")", UNKNOWN, () -> x.patch(behind, asked));
                for (int patch : STRAY) {
                    refused(x, "patch(" + patch + ", " + what + ")", UNKNOWN, () -> x.patch(patch, asked));
                }
            }
        }
    }

    @Edge(of = "Promise 11", words = "UNKNOWN: patch")
    static void noPatchWithoutAField() {
        AimDesk x = page("4;1,1");
        for (int what = 0; what <= 3; what++) {
            int asked = what;
            refused(x, "patch(0, " + what + ")", UNKNOWN, () -> x.patch(0, asked));
        }
    }

    @Edge(of = "Promise 11", words = "OUTSIDE: what.")
    static void whatIsOutsideOfAPatch() {
        AimDesk x = desk(LARGEST);
        for (int what : new int[] {-1, 4, 10, 256, LEAST, MOST}) {
            refused(x, "patch(0, " + what + ")", OUTSIDE, () -> x.patch(0, what));
            refused(x, "patch(3, " + what + ")", OUTSIDE, () -> x.patch(3, what));
        }
    }
}
