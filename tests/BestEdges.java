/** BEST and BOUND, and promise 12. */
final class BestEdges extends EdgeCases {
    /** What best() answers for 0, 1, 10 to 14. */
    private static void dueBest(String when, AimDesk x, boolean steady, int... due) {
        for (int i = 0; i < due.length; i++) {
            int what = i < 2 ? i : i + 8;
            due(when + ", best(" + steady + ", " + what + ")", x.best(steady, what), due[i]);
        }
    }

    // ---- BEST

    @Edge(of = "Terms", words = "BEST: of all AIMS that are SAFE (steady: STEADY)")
    static void bestMayBeAsHotAsTheCeiling() {
        AimDesk x = desk("1;5,0");
        x.ceiling(0, 5);
        dueBest("ceiling 5", x, false, 5, 0, 0);
        x.ceiling(0, 4);
        dueBest("ceiling 4", x, false, 0, 4, -1);
    }

    @Edge(of = "Terms", words = "BEST: of all AIMS that are SAFE (steady: STEADY)")
    static void besideTheAimToo() {
        AimDesk x = desk("2;5,2");
        ceilings(x, 5, 2);
        dueBest("just enough", x, false, 7, 0, 0);
        ceilings(x, 5, 1);
        dueBest("one less beside", x, false, 0, 6, -1);
        ceilings(x, 1, 5);
        dueBest("one less on the other side", x, false, 0, 6, -1);
    }

    @Edge(of = "Terms", words = "BEST: of all AIMS that are SAFE (steady: STEADY)")
    static void steadyAsHotAsTheCeilingWithoutClouds() {
        AimDesk x = desk("1;5,0;4,0");
        x.aim(0, 0);
        x.stuck(0, true);
        x.shade(1);
        x.ceiling(0, 9);
        dueBest("ceiling 9", x, true, 4, 0, 0, 0);
        x.ceiling(0, 8);
        dueBest("ceiling 8", x, true, 0, 4, 0, -1);
        dueBest("ceiling 8, under the cloud", x, false, 4, 0, 0, 0);
    }

    @Edge(of = "Terms", words = "BEST: of all AIMS that are SAFE (steady: STEADY)")
    static void allAtTheLastPatch() {
        AimDesk x = desk("4;1,0;1,0;1,0;1,0;1,0");
        ceilings(x, 0, 0, 0, 5);
        dueBest("only the last one bears anything", x, false, 5, 0, 3, 3, 3, 3, 3);
        dueBest("only the last one bears anything", x, true, 5, 0, 3, 3, 3, 3, 3);
    }

    @Edge(of = "Terms", words = "and have STUCK MIRRORS as they are")
    static void allStuck() {
        AimDesk x = desk("2;5,1;4,2;3,3;2,4;1,5");
        ceilings(x, 60, 60);
        aims(x, 1, -1, 0, 1, 0);
        for (int mirror = 0; mirror < 5; mirror++) {
            x.stuck(mirror, true);
        }
        dueBest("all stuck", x, false, 24, 0, 1, -1, 0, 1, 0);
    }

    @Edge(of = "Terms", words = "and have STUCK MIRRORS as they are")
    static void aloneAndStuckAway() {
        AimDesk x = desk("1;5,0");
        x.stuck(0, true);
        dueBest("stuck away", x, false, 0, 0, -1);
    }

    @Edge(of = "Terms", words = "those by which most is CAUGHT")
    static void nothingCanBeCaught() {
        AimDesk x = desk(LARGEST);
        ceilings(x, 0, 0, 0, 0);
        dueBest("all ceilings 0", x, false, 0, 0, -1, -1, -1, -1, -1);
    }

    @Edge(of = "Terms", words = "those by which most is CAUGHT")
    static void oneMoreIsEnough() {
        dueBest("one more at patch 1", desk("3;5,1"), false, 7, 0, 1);
        AimDesk x = desk("1;4,0;5,0");
        x.ceiling(0, 5);
        dueBest("one more by mirror 1", x, false, 5, 0, -1, 0);
        AimDesk y = desk("1;5,0;4,0");
        y.ceiling(0, 5);
        dueBest("one more by mirror 0", y, false, 5, 0, 0, -1);
    }

    private static final String LEAST_AIMS =
        "of like ones those by which MIRROR 0 has the least AIM, then MIRROR 1, and so on";

    @Edge(of = "Terms", words = LEAST_AIMS)
    static void awayIsTheLeastAim() {
        AimDesk x = desk("4;9,9;9,9;9,9;9,9;9,9");
        x.shade(31);
        dueBest("all shaded", x, false, 0, 0, -1, -1, -1, -1, -1);
        dueBest("all shaded, steady", x, true, 0, 0, -1, -1, -1, -1, -1);
    }

    @Edge(of = "Terms", words = LEAST_AIMS)
    static void mirrorNoughtComesFirst() {
        AimDesk x = desk("1;5,0;5,0");
        x.ceiling(0, 5);
        dueBest("one of two", x, false, 5, 0, -1, 0);
        AimDesk y = desk("2;5,0;5,0");
        ceilings(y, 5, 5);
        dueBest("one each", y, false, 10, 0, 0, 1);
    }

    @Edge(of = "Terms", words = LEAST_AIMS)
    static void thenTheNextUpToTheLast() {
        AimDesk x = desk("1;5,0;5,0;5,0;5,0;5,0");
        x.ceiling(0, 5);
        dueBest("one of five", x, false, 5, 0, -1, -1, -1, -1, 0);
        x.ceiling(0, 10);
        dueBest("two of five", x, false, 10, 0, -1, -1, -1, 0, 0);
        dueBest("like patches", desk("4;1,1;1,1;1,1;1,1;1,1"), false, 15, 0, 1, 1, 1, 1, 1);
    }

    @Edge(of = "Terms", words = "none, if there are none.")
    static void noBest() {
        AimDesk x = desk("1;5,0;1,0");
        x.aim(0, 0);
        x.stuck(0, true);
        x.ceiling(0, 5);
        dueBest("just safe", x, false, 5, 0, 0, -1);
        x.ceiling(0, 4);
        dueBest("a stuck one is too hot", x, false, NONE, NONE, NONE, NONE, NONE, NONE, NONE);
    }

    @Edge(of = "Terms", words = "none, if there are none.")
    static void noSteadyBest() {
        AimDesk x = desk("1;5,0");
        x.aim(0, 0);
        x.stuck(0, true);
        x.shade(1);
        x.ceiling(0, 4);
        dueBest("safe under the cloud", x, false, 0, 0, 0);
        dueBest("but not when it passes", x, true, NONE, NONE, NONE);
        x.ceiling(0, 5);
        dueBest("just steady", x, true, 0, 0, 0);
    }

    // ---- BOUND

    @Edge(of = "Terms", words = "BOUND: the lesser one of:")
    static void whatMirrorsGiveAgainstCeilings() {
        AimDesk x = desk("1;5,0");
        x.ceiling(0, 6);
        due("5 against 6", x.best(false, 1), 0);
        x.ceiling(0, 5);
        due("5 against 5", x.best(false, 1), 0);
        x.ceiling(0, 4);
        due("5 against 4", x.best(false, 1), 4);
    }

    private static final String MOST_GIVEN =
        "of each MIRROR that is not SHADED the most that it could give to all PATCHES by any AIM";

    @Edge(of = "Terms", words = MOST_GIVEN)
    static void allShadedGiveNothing() {
        AimDesk x = desk(LARGEST);
        x.shade(31);
        due("not steady", x.best(false, 1), 0);
        due("steady", x.best(true, 1), 0);
        x.shade(30);
        ceilings(x, 0, 0, 0, 60);
        due("all but one shaded", x.best(false, 1), 27);
        due("all but one shaded, steady", x.best(true, 1), 27);
    }

    @Edge(of = "Terms", words = MOST_GIVEN)
    static void theMostOfOneToFourPatches() {
        // One patch that bears nothing keeps all from being caught, so that BOUND itself is seen.
        due("one patch", desk("1;9,8").best(false, 1), 0);
        int[][] borne = {{60, 0}, {60, 0, 60}, {0, 0, 0, 60}};
        int[] due = {17, 25, 25};
        for (int i = 0; i < 3; i++) {
            AimDesk x = desk(i + 2 + ";9,8");
            ceilings(x, borne[i]);
            due(i + 2 + " patches, caught", x.best(false, 0), 0);
            due(i + 2 + " patches", x.best(false, 1), due[i]);
        }
    }

    @Edge(of = "Terms", words = "(by the one that it has, if it is STUCK), together")
    static void stuckAwayGivesNothing() {
        AimDesk x = desk("2;9,8");
        ceilings(x, 60, 0);
        due("not stuck", x.best(false, 1), 17);
        x.stuck(0, true);
        due("stuck away", x.best(false, 1), 0);
    }

    @Edge(of = "Terms", words = "(by the one that it has, if it is STUCK), together")
    static void stuckAtTheEndOfTheRow() {
        AimDesk x = desk("3;9,8;1,0");
        ceilings(x, 60, 60, 60);
        x.aim(0, 0);
        x.stuck(0, true);
        dueBest("17 and 1", x, false, 18, 0, 0, 0);
        x.shade(1);
        dueBest("stuck and shaded", x, false, 1, 0, 0, 0);
    }

    @Edge(of = "Terms", words = "all CEILINGS together.")
    static void leastAndMostCeilings() {
        AimDesk x = desk(LARGEST);
        ceilings(x, 0, 0, 0, 0);
        due("all 0", x.best(false, 1), 0);
        ceilings(x, 1, 2, 3, 4);
        due("10 together", x.best(false, 1), 10);
        ceilings(x, 60, 60, 60, 60);
        dueBest("240 together, 135 given", x, false, 135, 0);
    }

    // ---- promise 12

    @Edge(of = "Promise 12", words = "BEST: what = 0 how much is CAUGHT (NONE: there is none)")
    static void caughtOrNone() {
        AimDesk x = desk("1;5,0");
        due("some", x.best(false, 0), 5);
        x.ceiling(0, 0);
        due("nothing is not none", x.best(false, 0), 0);
        x.ceiling(0, 5);
        x.aim(0, 0);
        x.stuck(0, true);
        x.ceiling(0, 4);
        due("none", x.best(false, 0), NONE);
        due("none, steady", x.best(true, 0), NONE);
    }

    @Edge(of = "Promise 12", words = "1 BOUND less that (NONE)")
    static void boundLessThatOrNone() {
        AimDesk x = desk("1;5,0");
        due("reached", x.best(false, 1), 0);
        x.ceiling(0, 4);
        due("missed", x.best(false, 1), 4);
        x.ceiling(0, 5);
        x.aim(0, 0);
        x.stuck(0, true);
        x.ceiling(0, 4);
        due("none", x.best(false, 1), NONE);
        due("none, steady", x.best(true, 1), NONE);
    }

    private static final String AIM_OR_NONE =
        "10 to 14 AIM of that MIRROR (from 10 on; NONE: no BEST, or no such MIRROR).";

    @Edge(of = "Promise 12", words = AIM_OR_NONE)
    static void theLastMirrorAndNoSuchMirror() {
        String text = "1";
        for (int mirrors = 1; mirrors <= 5; mirrors++) {
            text += ";1,0";
            AimDesk x = desk(text);
            for (int what = 10; what <= 14; what++) {
                due("best(false, " + what + ") of " + mirrors, x.best(false, what), what - 10 < mirrors ? 0 : NONE);
            }
        }
    }

    @Edge(of = "Promise 12", words = AIM_OR_NONE)
    static void noAimsWithoutBest() {
        AimDesk x = desk("1;1,0;1,0;1,0;1,0;1,0");
        x.aim(4, 0);
        x.stuck(4, true);
        x.ceiling(0, 0);
        for (int what = 10; what <= 14; what++) {
            due("best(false, " + what + ")", x.best(false, what), NONE);
            due("best(true, " + what + ")", x.best(true, what), NONE);
        }
    }

    @Edge(of = "Promise 12", words = "STATE: no FIELD")
    static void noField() {
        AimDesk x = page(LARGEST);
        for (int what : new int[] {0, 1, 10, 14}) {
            refused(x, "best(false, " + what + ")", STATE, () -> x.best(false, what));
            refused(x, "best(true, " + what + ")", STATE, () -> x.best(true, what));
        }
    }

    @Edge(of = "Promise 12", words = "OUTSIDE: what.")
    static void whatIsOutside() {
        AimDesk x = desk("4;1,1;1,1;1,1;1,1;1,1");
        for (int what : new int[] {-1, 2, 9, 15, 20, LEAST, LEAST + 10, MOST}) {
            refused(x, "best(false, " + what + ")", OUTSIDE, () -> x.best(false, what));
            refused(x, "best(true, " + what + ")", OUTSIDE, () -> x.best(true, what));
        }
    }
}
