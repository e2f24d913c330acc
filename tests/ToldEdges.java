/** Promises 6 to 9: ceiling, shade, stuck, aim. */
final class ToldEdges extends EdgeCases {
    /** Numbers that name no mirror and no patch, though some of them would by a shift's or a byte's wrap-around. */
    private static final int[] STRAY = {-1, 32, 33, -32, 256, 65536, LEAST, MOST};

    // ---- promise 6

    @Edge(of = "Promise 6", words = "CEILING of a PATCH becomes v: what it was.")
    static void firstCeilingOfEachPatch() {
        AimDesk x = desk("4;1,1");
        for (int patch = 0; patch < 4; patch++) {
            due("ceiling(" + patch + ", " + (30 + patch) + ")", x.ceiling(patch, 30 + patch), 20);
        }
        for (int patch = 0; patch < 4; patch++) {
            due("patch(" + patch + ", 1)", x.patch(patch, 1), 30 + patch);
        }
    }

    @Edge(of = "Promise 6", words = "CEILING of a PATCH becomes v: what it was.")
    static void theSameCeilingAgain() {
        AimDesk x = desk("1;1,1");
        due("ceiling(0, 20)", x.ceiling(0, 20), 20);
        due("patch(0, 1)", x.patch(0, 1), 20);
    }

    @Edge(of = "Promise 6", words = "CEILING of a PATCH becomes v: what it was.")
    static void aCeilingBelowTheHeat() {
        AimDesk x = desk("1;5,0");
        x.aim(0, 0);
        due("ceiling(0, 4)", x.ceiling(0, 4), 20);
        due("patch(0, 1)", x.patch(0, 1), 4);
        due("aim of mirror 0", x.mirror(0, 2), 0);
        due("count(4)", x.count(4), 0);
    }

    @Edge(of = "Promise 6", words = "UNKNOWN: patch")
    static void noSuchPatch() {
        for (int patches = 1; patches <= 4; patches++) {
            AimDesk x = desk(patches + ";1,1");
            int behind = patches;
            refused(x, "ceiling() of patch " + patches + " of " + patches, UNKNOWN, () -> x.ceiling(behind, 5));
            for (int patch : STRAY) {
                refused(x, "ceiling(" + patch + ", 5)", UNKNOWN, () -> x.ceiling(patch, 5));
            }
        }
    }

    @Edge(of = "Promise 6", words = "UNKNOWN: patch")
    static void noPatchWithoutAField() {
        AimDesk x = page("4;1,1");
        refused(x, "ceiling(0, 5)", UNKNOWN, () -> x.ceiling(0, 5));
    }

    @Edge(of = "Promise 6", words = "OUTSIDE: v.")
    static void ceilingTooSmall() {
        AimDesk x = desk("1;1,1");
        for (int v : new int[] {-1, -60, LEAST}) {
            refused(x, "ceiling(0, " + v + ")", OUTSIDE, () -> x.ceiling(0, v));
        }
        due("ceiling(0, 0)", x.ceiling(0, 0), 20);
    }

    @Edge(of = "Promise 6", words = "OUTSIDE: v.")
    static void ceilingTooLarge() {
        AimDesk x = desk("1;1,1");
        for (int v : new int[] {61, 127, 128, 256, MOST}) {
            refused(x, "ceiling(0, " + v + ")", OUTSIDE, () -> x.ceiling(0, v));
        }
        due("ceiling(0, 60)", x.ceiling(0, 60), 20);
    }

    // ---- promise 7

    @Edge(of = "Promise 7", words = "Just these MIRRORS (bits) are SHADED from now on: which were.")
    static void allThenNone() {
        AimDesk x = desk(LARGEST);
        due("shade(31)", x.shade(31), 0);
        due("shade(31) again", x.shade(31), 31);
        due("shade(0)", x.shade(0), 31);
        due("shade(0) again", x.shade(0), 0);
        due("count(6)", x.count(6), 0);
    }

    @Edge(of = "Promise 7", words = "Just these MIRRORS (bits) are SHADED from now on: which were.")
    static void justTheseAndNoOthers() {
        AimDesk x = desk(LARGEST);
        x.shade(10);
        due("shade(5)", x.shade(5), 10);
        for (int mirror = 0; mirror < 5; mirror++) {
            due("mirror " + mirror + " is shaded", x.mirror(mirror, 3), mirror == 0 || mirror == 2 ? 1 : 0);
        }
    }

    @Edge(of = "Promise 7", words = "Just these MIRRORS (bits) are SHADED from now on: which were.")
    static void cloudsMayPassThoughItGetsTooHot() {
        AimDesk x = desk("1;5,0");
        x.shade(1);
        x.ceiling(0, 4);
        x.aim(0, 0);
        due("shade(0)", x.shade(0), 1);
        due("count(4)", x.count(4), 0);
    }

    @Edge(of = "Promise 7", words = "STATE: no FIELD")
    static void nothingToShade() {
        AimDesk x = page("1;1,1");
        refused(x, "shade(0)", STATE, () -> x.shade(0));
        refused(x, "shade(1)", STATE, () -> x.shade(1));
    }

    @Edge(of = "Promise 7", words = "OUTSIDE: mirrors (bits of MIRRORS that there are).")
    static void bitsOfMirrorsThatThereAreNot() {
        String text = "1";
        for (int mirrors = 1; mirrors <= 5; mirrors++) {
            text += ";1,0";
            AimDesk x = desk(text);
            int all = (1 << mirrors) - 1;
            due("shade(" + all + ") of " + mirrors, x.shade(all), 0);
            for (int bits : new int[] {all + 1, all + 2, 2 * all + 1, 1 << 30, -1, LEAST, LEAST + 1, MOST}) {
                refused(x, "shade(" + bits + ") of " + mirrors, OUTSIDE, () -> x.shade(bits));
            }
            due("count(6)", x.count(6), all);
        }
    }

    // ---- promise 8

    @Edge(of = "Promise 8", words = "A MIRROR is STUCK, or not: whether it was (1, 0).")
    static void stuckTwiceAndLooseTwice() {
        for (int mirror : new int[] {0, 4}) {
            AimDesk x = desk(LARGEST);
            due("not stuck, told so", x.stuck(mirror, false), 0);
            due("stuck", x.stuck(mirror, true), 0);
            due("stuck again", x.stuck(mirror, true), 1);
            due("count(7)", x.count(7), 1 << mirror);
            due("not stuck", x.stuck(mirror, false), 1);
            due("not stuck again", x.stuck(mirror, false), 0);
            due("count(7) then", x.count(7), 0);
        }
    }

    @Edge(of = "Promise 8", words = "A MIRROR is STUCK, or not: whether it was (1, 0).")
    static void allAtOnce() {
        AimDesk x = desk(LARGEST);
        for (int mirror = 0; mirror < 5; mirror++) {
            due("stuck(" + mirror + ", true)", x.stuck(mirror, true), 0);
        }
        due("count(7)", x.count(7), 31);
        due("stuck(2, false)", x.stuck(2, false), 1);
        due("count(7) then", x.count(7), 27);
    }

    @Edge(of = "Promise 8", words = "UNKNOWN: mirror.")
    static void noSuchMirrorToBeStuck() {
        String text = "1";
        for (int mirrors = 1; mirrors <= 5; mirrors++) {
            text += ";1,0";
            AimDesk x = desk(text);
            int behind = mirrors;
            refused(x, "stuck() of mirror " + mirrors + " of " + mirrors, UNKNOWN, () -> x.stuck(behind, true));
            for (int mirror : STRAY) {
                refused(x, "stuck(" + mirror + ", true)", UNKNOWN, () -> x.stuck(mirror, true));
                refused(x, "stuck(" + mirror + ", false)", UNKNOWN, () -> x.stuck(mirror, false));
            }
        }
    }

    @Edge(of = "Promise 8", words = "UNKNOWN: mirror.")
    static void noMirrorToBeStuckWithoutAField() {
        AimDesk x = page("1;1,1");
        refused(x, "stuck(0, true)", UNKNOWN, () -> x.stuck(0, true));
        refused(x, "stuck(0, false)", UNKNOWN, () -> x.stuck(0, false));
    }

    // ---- promise 9

    @Edge(of = "Promise 9", words = "A MIRROR gets an AIM (perhaps that which it has): which it had.")
    static void theAimThatItHas() {
        AimDesk x = desk("2;5,1");
        due("away as it is", x.aim(0, -1), -1);
        due("aim(0, 1)", x.aim(0, 1), -1);
        due("aim(0, 1) again", x.aim(0, 1), 1);
        due("count(9)", x.count(9), 3);
        due("mirror(0, 2)", x.mirror(0, 2), 1);
        due("heat", x.patch(1, 0), 5);
    }

    @Edge(of = "Promise 9", words = "UNKNOWN: mirror")
    static void noSuchMirrorToAim() {
        String text = "1";
        for (int mirrors = 1; mirrors <= 5; mirrors++) {
            text += ";1,0";
            AimDesk x = desk(text);
            int behind = mirrors;
            refused(x, "aim() of mirror " + mirrors + " of " + mirrors, UNKNOWN, () -> x.aim(behind, 0));
            for (int mirror : STRAY) {
                refused(x, "aim(" + mirror + ", 0)", UNKNOWN, () -> x.aim(mirror, 0));
                refused(x, "aim(" + mirror + ", -1)", UNKNOWN, () -> x.aim(mirror, -1));
            }
        }
    }

    @Edge(of = "Promise 9", words = "UNKNOWN: mirror")
    static void noMirrorToAimWithoutAField() {
        AimDesk x = page("1;1,1");
        refused(x, "aim(0, 0)", UNKNOWN, () -> x.aim(0, 0));
        refused(x, "aim(0, -1)", UNKNOWN, () -> x.aim(0, -1));
    }

    @Edge(of = "Promise 9", words = "OUTSIDE: aim (a PATCH, or -1)")
    static void leastAndMostAim() {
        for (int patches = 1; patches <= 4; patches++) {
            AimDesk x = desk(patches + ";1,1");
            due("the last patch", x.aim(0, patches - 1), -1);
            due("away", x.aim(0, -1), patches - 1);
            int behind = patches;
            refused(x, "behind the last patch of " + patches, OUTSIDE, () -> x.aim(0, behind));
            refused(x, "aim(0, -2)", OUTSIDE, () -> x.aim(0, -2));
        }
    }

    @Edge(of = "Promise 9", words = "OUTSIDE: aim (a PATCH, or -1)")
    static void aimFarOutside() {
        AimDesk x = desk("4;1,1");
        for (int aim : new int[] {5, 7, 8, 255, 256, LEAST, MOST, AimDesk.NONE}) {
            refused(x, "aim(0, " + aim + ")", OUTSIDE, () -> x.aim(0, aim));
        }
    }

    @Edge(of = "Promise 9", words = "STATE: it is STUCK")
    static void stuckAlsoForAwayAndForTheAimThatItHas() {
        AimDesk x = desk("2;5,1");
        x.aim(0, 0);
        x.stuck(0, true);
        refused(x, "another", STATE, () -> x.aim(0, 1));
        refused(x, "away", STATE, () -> x.aim(0, -1));
        refused(x, "that which it has", STATE, () -> x.aim(0, 0));
    }

    private static final String TOO_HOT_THEN = "or the AIM is not -1 and some PATCH would be TOO HOT then.";

    @Edge(of = "Promise 9", words = TOO_HOT_THEN)
    static void asHotAsTheCeilingThen() {
        AimDesk x = desk("1;5,0;4,0");
        x.aim(0, 0);
        x.ceiling(0, 8);
        refused(x, "one above the ceiling", STATE, () -> x.aim(1, 0));
        x.ceiling(0, 9);
        due("as hot as the ceiling", x.aim(1, 0), -1);
    }

    @Edge(of = "Promise 9", words = TOO_HOT_THEN)
    static void besideTheAimThen() {
        AimDesk x = desk("3;5,2");
        int[][] ceilings = {{1, 5, 2}, {2, 4, 2}, {2, 5, 1}};
        for (int patch = 0; patch < 3; patch++) {
            ceilings(x, ceilings[patch]);
            refused(x, "patch " + patch + " too hot then", STATE, () -> x.aim(0, 1));
        }
        ceilings(x, 2, 5, 2);
        due("none too hot then", x.aim(0, 1), -1);
    }

    @Edge(of = "Promise 9", words = TOO_HOT_THEN)
    static void somePatchThatItDoesNotTouch() {
        AimDesk x = desk("4;5,0;5,0");
        x.aim(0, 0);
        x.ceiling(0, 4);
        refused(x, "patch 0 stays too hot", STATE, () -> x.aim(1, 3));
        due("what cools it is allowed", x.aim(0, 3), 0);
    }

    @Edge(of = "Promise 9", words = TOO_HOT_THEN)
    static void theAimThatItHasWhileTooHot() {
        AimDesk x = desk("1;5,0");
        x.aim(0, 0);
        x.ceiling(0, 4);
        refused(x, "aim(0, 0)", STATE, () -> x.aim(0, 0));
    }

    @Edge(of = "Promise 9", words = TOO_HOT_THEN)
    static void awayThoughSomePatchStaysTooHot() {
        AimDesk x = desk("1;5,0;5,0");
        aims(x, 0, 0);
        x.ceiling(0, 4);
        due("aim(1, -1)", x.aim(1, -1), 0);
        due("aim(1, -1) again", x.aim(1, -1), -1);
        due("count(4)", x.count(4), 0);
        due("count(9)", x.count(9), 4);
    }

    @Edge(of = "Promise 9", words = TOO_HOT_THEN)
    static void tooHotOnlyWhenTheCloudPasses() {
        AimDesk x = desk("1;9,0");
        x.ceiling(0, 0);
        x.shade(1);
        due("shaded it gives nothing", x.aim(0, 0), -1);
        x.shade(0);
        refused(x, "not shaded any more", STATE, () -> x.aim(0, 0));
    }
}
