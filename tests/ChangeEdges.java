/** MOVE and CHANGE, and promises 13 and 14. */
final class ChangeEdges extends EdgeCases {
    /** That CHANGE has just these moves. */
    private static void dueChange(String when, AimDesk x, boolean steady, int... due) {
        due(when + ", change(" + steady + ", 0)", x.change(steady, 0), due.length);
        for (int i = 0; i < 15; i++) {
            int want = i < due.length ? due[i] : NONE;
            due(when + ", change(" + steady + ", " + (10 + i) + ")", x.change(steady, 10 + i), want);
        }
    }

    private static void dueNoChange(String when, AimDesk x, boolean steady) {
        due(when + ", change(" + steady + ", 0)", x.change(steady, 0), NONE);
        for (int what = 10; what <= 24; what++) {
            due(when + ", change(" + steady + ", " + what + ")", x.change(steady, what), NONE);
        }
    }

    /** Two mirrors, each at the patch where the other one is by BEST. */
    private static AimDesk crossed(int... ceilings) {
        AimDesk x = desk("2;5,0;5,0");
        aims(x, 1, 0);
        ceilings(x, ceilings);
        return x;
    }

    /** Too hot, so that only the first mirror's turning away would do. */
    private static AimDesk onlyByTheFirst() {
        AimDesk x = desk("1;5,0;3,0;3,0");
        aims(x, 0, 0, 0);
        x.ceiling(0, 6);
        return x;
    }

    /** The longest change that a search of some millions of fields has found; ten moves are the most there can be. */
    private static AimDesk longest() {
        AimDesk x = desk("4;7,0;6,1;3,0;5,1;2,0");
        aims(x, 3, 2, 3, 2, 0);
        ceilings(x, 1, 3, 11, 12);
        return x;
    }

    // ---- MOVE, CHANGE

    @Edge(of = "Terms", words = "A MOVE: one MIRROR, that is not STUCK, gets another AIM.")
    static void aStuckOneNeverMoves() {
        AimDesk x = onlyByTheFirst();
        dueChange("not stuck", x, false, 0);
        x.stuck(0, true);
        due("stuck, best(false, 0)", x.best(false, 0), 5);
        dueNoChange("stuck, it would have to turn away and back", x, false);
    }

    @Edge(of = "Terms", words = "A MOVE: one MIRROR, that is not STUCK, gets another AIM.")
    static void allStuckAndThere() {
        AimDesk x = desk("1;5,0;5,0");
        x.aim(1, 0);
        x.stuck(0, true);
        x.stuck(1, true);
        dueChange("no mirror can move", x, false);
        dueChange("no mirror can move, steady", x, true);
    }

    @Edge(of = "Terms", words = "A MOVE: one MIRROR, that is not STUCK, gets another AIM.")
    static void oneMirrorAtATime() {
        AimDesk x = crossed(5, 5);
        dueChange("two that cross need three moves", x, false, 0, 10, 1);
    }

    private static final String FEWEST = "CHANGE: the fewest MOVES from the AIMS as they are to BEST";

    @Edge(of = "Terms", words = FEWEST)
    static void allToTheLastPatchAndBack() {
        AimDesk x = desk("4;1,0;1,0;1,0;1,0;1,0");
        ceilings(x, 0, 0, 0, 5);
        dueChange("all away", x, false, 4, 12, 20, 28, 36);
        aims(x, 3, 3, 3, 3, 3);
        dueChange("all there", x, false);
        x.ceiling(0, 5);
        dueChange("the first one bears as much", x, false, 1, 9, 17, 25, 33);
    }

    @Edge(of = "Terms", words = FEWEST)
    static void noMovesIfBestIsThere() {
        AimDesk x = desk("1;5,0");
        x.aim(0, 0);
        dueChange("there", x, false);
        AimDesk y = desk("1;5,0");
        y.ceiling(0, 0);
        dueChange("there at first, all away", y, false);
        dueChange("there at first, all away, steady", y, true);
    }

    @Edge(of = "Terms", words = FEWEST)
    static void likeAimsAreNotEnough() {
        AimDesk x = desk("1;5,0;5,0");
        x.aim(0, 0);
        x.ceiling(0, 5);
        due("as much is caught", x.count(3), x.best(false, 0));
        dueChange("but BEST is mirror 1 alone", x, false, 0, 9);
    }

    @Edge(of = "Terms", words = FEWEST)
    static void fromTheAimsAsTheyAreNow() {
        AimDesk x = desk("1;5,0;5,0");
        for (boolean steady : new boolean[] {false, true}) {
            dueChange("both away", x, steady, 1, 9);
            x.aim(0, 0);
            dueChange("one is there now", x, steady, 9);
            x.aim(0, -1);
            dueChange("both away again", x, steady, 1, 9);
        }
    }

    @Edge(of = "Terms", words = FEWEST)
    static void toBestAsItIsNow() {
        AimDesk x = desk("1;5,0;4,0");
        dueChange("both fit", x, false, 1, 9);
        x.ceiling(0, 8);
        dueChange("one fits by now", x, false, 1);
        x.shade(1);
        dueChange("the other one gives more now", x, false, 9);
        x.stuck(1, true);
        dueChange("and cannot move now", x, false);
    }

    @Edge(of = "Terms", words = FEWEST)
    static void theMostMoves() {
        dueChange("eight moves", longest(), false, 32, 0, 8, 28, 3, 18, 12, 35);
    }

    private static final String BEHIND_EACH = "SAFE (steady: STEADY) behind each";

    @Edge(of = "Terms", words = BEHIND_EACH)
    static void asHotAsTheCeilingOnTheWay() {
        dueChange("both at patch 1 on the way", crossed(5, 10), false, 10, 1);
        dueChange("one too hot for that", crossed(5, 9), false, 0, 10, 1);
    }

    @Edge(of = "Terms", words = BEHIND_EACH)
    static void besideTheAimOnTheWay() {
        AimDesk x = desk("2;5,2;4,2");
        aims(x, -1, 1);
        ceilings(x, 5, 5);
        due("best(false, 10)", x.best(false, 10), 0);
        dueChange("the other one gives too much beside its aim", x, false, 8, 1);
    }

    @Edge(of = "Terms", words = BEHIND_EACH)
    static void tooHotOnlyAheadOfTheFirstMove() {
        AimDesk x = desk("1;5,0;5,0");
        aims(x, 0, 0);
        x.ceiling(0, 5);
        dueChange("too hot as it is", x, false, 0);
        AimDesk y = desk("1;9,0");
        y.aim(0, 0);
        y.ceiling(0, 0);
        dueChange("too hot and alone", y, false, 0);
    }

    @Edge(of = "Terms", words = BEHIND_EACH)
    static void steadyOnTheWay() {
        AimDesk x = crossed(9, 9);
        x.shade(2);
        dueChange("safe under the cloud", x, false, 1, 8);
        dueChange("not steady, so the shaded one first", x, true, 8, 1);
        x.ceiling(0, 10);
        dueChange("just steady", x, true, 1, 8);
    }

    @Edge(of = "Terms", words = BEHIND_EACH)
    static void notSteadyOnlyAheadOfTheFirstMove() {
        AimDesk x = desk("1;5,0;5,0");
        aims(x, 0, 0);
        x.shade(2);
        x.ceiling(0, 9);
        due("count(5)", x.count(5), 0);
        dueChange("not steady as it is", x, true, 8);
    }

    private static final String NO_CHANGE = "none, if there are none such, or no BEST.";

    @Edge(of = "Terms", words = NO_CHANGE)
    static void tooHotBehindAnyFirstMove() {
        AimDesk x = desk("1;5,0;5,0;5,0");
        aims(x, 0, 0, 0);
        x.ceiling(0, 5);
        due("there is a BEST", x.best(false, 0), 5);
        dueNoChange("one move is not enough", x, false);
        x.ceiling(0, 10);
        dueChange("one move is enough", x, false, 0);
    }

    @Edge(of = "Terms", words = NO_CHANGE)
    static void noSteadyChangeThoughOneThatIsSafe() {
        AimDesk x = desk("1;5,0;5,0;5,0");
        aims(x, 0, 0, 0);
        x.shade(6);
        x.ceiling(0, 5);
        due("there is a steady BEST", x.best(true, 0), 5);
        dueNoChange("not steady behind any first move", x, true);
        dueChange("safe under the clouds", x, false, 8, 16);
    }

    @Edge(of = "Terms", words = NO_CHANGE)
    static void noChangeWithoutBest() {
        AimDesk x = desk("1;5,0;5,0");
        x.aim(0, 0);
        x.stuck(0, true);
        x.ceiling(0, 4);
        dueNoChange("no BEST", x, false);
        dueNoChange("no BEST, steady", x, true);
    }

    private static final String LEAST_MOVES = "Of several CHANGES that whose first MOVE is the least (by 8 times the "
        + "MIRROR, AIM and 1), then whose second one is, and so on.";

    @Edge(of = "Terms", words = LEAST_MOVES)
    static void leastAndMostMove() {
        AimDesk x = desk("4;9,0;9,0;9,0;9,0;9,0");
        x.aim(0, 0);
        ceilings(x, 0, 0, 0, 0);
        dueChange("mirror 0 away", x, false, 0);
        AimDesk y = desk("4;9,0;9,0;9,0;9,0;9,0");
        ceilings(y, 0, 0, 0, 9);
        dueChange("mirror 4 at patch 3", y, false, 36);
    }

    @Edge(of = "Terms", words = LEAST_MOVES)
    static void inTheOrderOfTheMirrorsIfAnyOrderDoes() {
        dueChange("five away", desk("4;1,1;1,1;1,1;1,1;1,1"), false, 2, 10, 18, 26, 34);
    }

    @Edge(of = "Terms", words = LEAST_MOVES)
    static void theLeastFirstMoveThoughALaterOneIsMore() {
        // Mirror 0 or mirror 1 makes room for the other one.
        dueChange("mirror 0 makes room", crossed(5, 5), false, 0, 10, 1);
        AimDesk x = desk("3;5,0;5,0");
        aims(x, 1, 0);
        ceilings(x, 5, 5, 5);
        dueChange("away is less than patch 2", x, false, 0, 10, 1);
    }

    @Edge(of = "Terms", words = LEAST_MOVES)
    static void thenTheLeastSecondMove() {
        AimDesk x = desk("3;5,0;5,0;5,0;1,0");
        aims(x, -1, 1, 0, -1);
        ceilings(x, 5, 5, 6);
        dueChange("room is made first, then the least", x, false, 19, 1, 27);
    }

    // ---- promise 13

    @Edge(of = "Promise 13", words = "CHANGE: what = 0 how many MOVES (NONE: there is none)")
    static void noMovesIsNotNone() {
        AimDesk x = desk("1;5,0;5,0");
        aims(x, 0, 0);
        due("there", x.change(false, 0), 0);
        x.stuck(0, true);
        x.ceiling(0, 4);
        due("none", x.change(false, 0), NONE);
        due("none, steady", x.change(true, 0), NONE);
    }

    private static final String MOVE_OF_PLACE = "10 to 24 the MOVE of that place (from 10 on), 8 times the MIRROR, the "
        + "AIM and 1 (NONE: it has not so many).";

    @Edge(of = "Promise 13", words = MOVE_OF_PLACE)
    static void theLastMoveAndTheNext() {
        AimDesk x = longest();
        due("change(false, 10)", x.change(false, 10), 32);
        due("change(false, 17)", x.change(false, 17), 35);
        due("change(false, 18)", x.change(false, 18), NONE);
        due("change(false, 24)", x.change(false, 24), NONE);
    }

    @Edge(of = "Promise 13", words = MOVE_OF_PLACE)
    static void noFirstMoveIfThereAreNone() {
        AimDesk x = desk("1;5,0");
        x.aim(0, 0);
        due("there, change(false, 10)", x.change(false, 10), NONE);
        due("there, change(true, 24)", x.change(true, 24), NONE);
    }

    @Edge(of = "Promise 13", words = "STATE: no FIELD")
    static void noFieldToChange() {
        AimDesk x = page(LARGEST);
        for (int what : new int[] {0, 10, 24}) {
            refused(x, "change(false, " + what + ")", STATE, () -> x.change(false, what));
            refused(x, "change(true, " + what + ")", STATE, () -> x.change(true, what));
        }
    }

    @Edge(of = "Promise 13", words = "OUTSIDE: what.")
    static void whatIsOutside() {
        AimDesk x = longest();
        for (int what : new int[] {-1, 1, 9, 25, LEAST, LEAST + 10, MOST}) {
            refused(x, "change(false, " + what + ")", OUTSIDE, () -> x.change(false, what));
            refused(x, "change(true, " + what + ")", OUTSIDE, () -> x.change(true, what));
        }
    }

    // ---- promise 14

    @Edge(of = "Promise 14", words = "The first MOVE of CHANGE is done: how many are left.")
    static void fromTheMostMovesToNone() {
        AimDesk x = longest();
        for (int left = 7; left >= 0; left--) {
            int move = x.change(false, 10);
            due("go(false)", x.go(false), left);
            due("it is done", x.mirror(move / 8, 2), move % 8 - 1);
            due("change(false, 0)", x.change(false, 0), left);
        }
        due("caught", x.count(3), x.best(false, 0));
    }

    @Edge(of = "Promise 14", words = "The first MOVE of CHANGE is done: how many are left.")
    static void onlyTheFirstMove() {
        AimDesk x = crossed(5, 5);
        due("go(true)", x.go(true), 2);
        due("mirror(0, 2)", x.mirror(0, 2), -1);
        due("mirror(1, 2)", x.mirror(1, 2), 0);
    }

    @Edge(of = "Promise 14", words = "The first MOVE of CHANGE is done: how many are left.")
    static void safeOrSteady() {
        AimDesk x = crossed(9, 9);
        x.shade(2);
        due("go(false)", x.go(false), 1);
        due("mirror(0, 2)", x.mirror(0, 2), 0);
        AimDesk y = crossed(9, 9);
        y.shade(2);
        due("go(true)", y.go(true), 1);
        due("mirror(1, 2)", y.mirror(1, 2), -1);
    }

    @Edge(of = "Promise 14", words = "STATE: no FIELD")
    static void noFieldToGo() {
        AimDesk x = page("1;5,0");
        refused(x, "go(false)", STATE, () -> x.go(false));
        refused(x, "go(true)", STATE, () -> x.go(true));
    }

    @Edge(of = "Promise 14", words = "or no CHANGE")
    static void noChangeToGo() {
        AimDesk x = desk("1;5,0;5,0;5,0");
        aims(x, 0, 0, 0);
        x.ceiling(0, 5);
        refused(x, "go(false), too hot behind any move", STATE, () -> x.go(false));
        refused(x, "go(true), too hot behind any move", STATE, () -> x.go(true));
        x.stuck(0, true);
        x.ceiling(0, 4);
        refused(x, "go(false), no BEST", STATE, () -> x.go(false));
        refused(x, "go(true), no BEST", STATE, () -> x.go(true));
    }

    @Edge(of = "Promise 14", words = "or it has no MOVES.")
    static void noMovesToGo() {
        AimDesk x = desk("1;5,0");
        x.aim(0, 0);
        refused(x, "go(false)", STATE, () -> x.go(false));
        refused(x, "go(true)", STATE, () -> x.go(true));
        due("count(9)", x.count(9), 1);
    }
}
