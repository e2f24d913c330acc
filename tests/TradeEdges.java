/** TRADE and RELIEF, and promises 15 and 16. */
final class TradeEdges extends EdgeCases {
    private static void dueTrade(String when, AimDesk x, int more, int first, int second) {
        due(when + ", trade(0)", x.trade(0), more);
        due(when + ", trade(1)", x.trade(1), first);
        due(when + ", trade(2)", x.trade(2), second);
    }

    private static void dueNoTrade(String when, AimDesk x) {
        dueTrade(when, x, NONE, NONE, NONE);
    }

    /** By a trade of 0 and 1 two more are caught, and the heats are 4, 10 and 3 then. */
    private static AimDesk pair() {
        AimDesk x = desk("3;9,3;1,1");
        aims(x, 0, 1);
        return x;
    }

    /** Mirrors of one patch, each with this middle, all aiming at it. */
    private static AimDesk heap(int... middles) {
        String text = "1";
        for (int middle : middles) {
            text += ";" + middle + ",0";
        }
        AimDesk x = desk(text);
        x.ceiling(0, 60);
        for (int mirror = 0; mirror < middles.length; mirror++) {
            x.aim(mirror, 0);
        }
        return x;
    }

    private static void dueRelief(String when, AimDesk x, int ceiling, int due) {
        x.ceiling(0, ceiling);
        due(when + ", ceiling " + ceiling + ", relief()", x.relief(), due);
    }

    // ---- TRADE

    @Edge(of = "Terms", words = "TRADE: two MIRRORS that are not STUCK")
    static void oneMirrorAloneHasNoTrade() {
        AimDesk x = desk("3;9,3");
        x.aim(0, 0);
        dueNoTrade("one mirror", x);
    }

    @Edge(of = "Terms", words = "TRADE: two MIRRORS that are not STUCK")
    static void neitherOfThemStuck() {
        AimDesk x = pair();
        dueTrade("none stuck", x, 2, 0, 1);
        x.stuck(0, true);
        dueNoTrade("the first stuck", x);
        x.stuck(1, true);
        dueNoTrade("both stuck", x);
        x.stuck(0, false);
        dueNoTrade("the second stuck", x);
        x.stuck(1, false);
        dueTrade("none stuck again", x, 2, 0, 1);
    }

    @Edge(of = "Terms", words = "with unlike AIMS, get each other's")
    static void likeAims() {
        AimDesk x = desk("3;9,3;1,1");
        dueNoTrade("both away", x);
        aims(x, 1, 1);
        dueNoTrade("both at patch 1", x);
    }

    @Edge(of = "Terms", words = "with unlike AIMS, get each other's")
    static void awayForAPatch() {
        AimDesk x = desk("1;9,0;1,0");
        aims(x, -1, 0);
        dueTrade("the first is away", x, 8, 0, 1);
        AimDesk y = desk("1;1,0;9,0");
        aims(y, 0, -1);
        dueTrade("the second is away", y, 8, 0, 1);
    }

    @Edge(of = "Terms", words = "of those behind which all is SAFE")
    static void asHotAsTheCeilingsBehindIt() {
        AimDesk x = pair();
        ceilings(x, 4, 10, 3);
        due("too hot as it is", x.count(4), 0);
        dueTrade("just safe behind it", x, 2, 0, 1);
        int[][] less = {{3, 10, 3}, {4, 9, 3}, {4, 10, 2}};
        for (int patch = 0; patch < 3; patch++) {
            ceilings(x, less[patch]);
            dueNoTrade("patch " + patch + " too hot behind it", x);
        }
    }

    @Edge(of = "Terms", words = "of those behind which all is SAFE")
    static void safeUnderACloudIsEnough() {
        AimDesk x = desk("1;9,0;1,0;9,0");
        aims(x, -1, 0, 0);
        x.shade(4);
        x.ceiling(0, 9);
        dueTrade("not steady behind it, but safe", x, 8, 0, 1);
    }

    @Edge(of = "Terms", words = "that by which most more is CAUGHT, if any more")
    static void oneMoreIsMore() {
        AimDesk x = desk("1;2,0;1,0");
        aims(x, -1, 0);
        dueTrade("one more", x, 1, 0, 1);
    }

    @Edge(of = "Terms", words = "that by which most more is CAUGHT, if any more")
    static void asMuchOrLessIsNot() {
        AimDesk x = desk("1;1,0;1,0");
        aims(x, -1, 0);
        dueNoTrade("as much", x);
        AimDesk y = desk("1;1,0;2,0");
        aims(y, -1, 0);
        dueNoTrade("one less", y);
    }

    @Edge(of = "Terms", words = "that by which most more is CAUGHT, if any more")
    static void theMostOfSeveral() {
        AimDesk x = desk("1;2,0;3,0;1,0");
        aims(x, -1, -1, 0);
        dueTrade("two more by a later pair", x, 2, 1, 2);
        AimDesk y = desk("1;1,0;9,0");
        aims(y, 0, -1);
        y.shade(1);
        dueTrade("the shaded one gave nothing", y, 9, 0, 1);
    }

    @Edge(of = "Terms", words = "of like ones that of the least first MIRROR, then of the least second one")
    static void theLeastFirst() {
        AimDesk x = desk("1;2,0;2,0;1,0");
        aims(x, -1, -1, 0);
        dueTrade("0 or 1 with 2", x, 1, 0, 2);
    }

    @Edge(of = "Terms", words = "of like ones that of the least first MIRROR, then of the least second one")
    static void theLeastFirstThoughItsSecondIsMore() {
        AimDesk x = desk("3;1,0;3,1;3,2;2,0");
        aims(x, 2, 1, 0, -1);
        dueTrade("0 with 3 rather than 1 with 2", x, 1, 0, 3);
        x.stuck(0, true);
        dueTrade("1 with 2 is as good", x, 1, 1, 2);
    }

    @Edge(of = "Terms", words = "of like ones that of the least first MIRROR, then of the least second one")
    static void theLeastSecond() {
        AimDesk x = desk("1;1,0;2,0;2,0");
        aims(x, 0, -1, -1);
        dueTrade("1 or 2 with 0", x, 1, 0, 1);
    }

    @Edge(of = "Terms", words = "(the first one is the lesser number)")
    static void theLastTwoMirrors() {
        AimDesk x = desk("1;1,0;1,0;1,0;1,0;2,0");
        aims(x, -1, -1, -1, 0, -1);
        dueTrade("3 and 4", x, 1, 3, 4);
        AimDesk y = desk("1;1,0;1,0;1,0;2,0;1,0");
        aims(y, -1, -1, -1, -1, 0);
        dueTrade("3 and 4 the other way about", y, 1, 3, 4);
    }

    @Edge(of = "Terms", words = "then of the least second one (the first one is the lesser number); none.")
    static void noTradeAtAll() {
        AimDesk x = desk(LARGEST);
        dueNoTrade("all away", x);
        ceilings(x, 60, 60, 60, 60);
        aims(x, 0, 1, 2, 3, -1);
        dueNoTrade("mirrors that are all alike", x);
    }

    // ---- RELIEF

    private static final String FEWEST =
        "RELIEF: the fewest MIRRORS, none STUCK, so that all is SAFE if these are AWAY";

    @Edge(of = "Terms", words = FEWEST)
    static void noneToTurnIfAllIsSafe() {
        due("all away", desk(LARGEST).relief(), 0);
        dueRelief("as hot as the ceiling", heap(5, 5, 3), 13, 0);
        AimDesk x = heap(5);
        x.stuck(0, true);
        dueRelief("stuck, but safe", x, 5, 0);
    }

    @Edge(of = "Terms", words = FEWEST)
    static void oneIfItIsEnough() {
        dueRelief("one too hot", heap(5, 5, 3), 12, 4);
        dueRelief("just enough by mirror 2", heap(5, 5, 3), 10, 4);
        dueRelief("not enough by mirror 2", heap(5, 5, 3), 9, 1);
        dueRelief("one large rather than two small", heap(2, 2, 9), 4, 4);
    }

    @Edge(of = "Terms", words = FEWEST)
    static void allFive() {
        dueRelief("nothing is borne", heap(5, 4, 3, 2, 1), 0, 31);
        dueRelief("one is borne", heap(5, 4, 3, 2, 1), 1, 15);
    }

    @Edge(of = "Terms", words = FEWEST)
    static void noStuckOne() {
        AimDesk x = heap(5, 4, 3);
        dueRelief("none stuck", x, 9, 4);
        x.stuck(2, true);
        dueRelief("mirror 2 stuck", x, 9, 2);
        x.stuck(1, true);
        dueRelief("mirrors 1 and 2 stuck", x, 9, 1);
    }

    @Edge(of = "Terms", words = FEWEST)
    static void noneThatIsAwayOrShadedAlready() {
        AimDesk x = heap(5, 5, 5);
        x.aim(0, -1);
        x.shade(2);
        dueRelief("0 away, 1 shaded", x, 4, 4);
        dueRelief("0 away, 1 shaded", x, 5, 0);
    }

    @Edge(of = "Terms", words = FEWEST)
    static void safeIsEnoughThoughNotSteady() {
        AimDesk x = heap(5, 5);
        x.shade(1);
        dueRelief("under a cloud", x, 5, 0);
    }

    @Edge(of = "Terms", words = "of such sets that by which most is CAUGHT then")
    static void oneMoreCaughtThen() {
        dueRelief("9 rather than 8", heap(5, 4, 4), 9, 2);
        dueRelief("9 rather than 8 or 7", heap(5, 4, 3), 9, 4);
        dueRelief("7 rather than 6 or 5", heap(4, 3, 3, 2), 7, 10);
    }

    @Edge(of = "Terms", words = "then that of the least sum of 2 to the power of their numbers")
    static void theLeastSum() {
        dueRelief("one of like ones", heap(5, 5, 5), 10, 1);
        dueRelief("two of like ones", heap(5, 5, 5), 5, 3);
        dueRelief("1 and 2 rather than 0 and 3", heap(4, 3, 3, 2), 6, 6);
        dueRelief("four of like ones", heap(5, 5, 5, 5, 5), 5, 15);
    }

    @Edge(of = "Terms", words = "then that of the least sum of 2 to the power of their numbers; none.")
    static void noReliefAtAll() {
        AimDesk x = heap(5, 1);
        x.stuck(0, true);
        dueRelief("just borne", x, 5, 2);
        dueRelief("the stuck one alone is too hot", x, 4, NONE);
        x.shade(1);
        dueRelief("while it is shaded", x, 4, 0);
    }

    // ---- promise 15

    @Edge(of = "Promise 15",
        words = "TRADE: what = 0 how much more is CAUGHT, 1 the first MIRROR, 2 the second one (NONE: there is none).")
    static void eachOfThemOrNone() {
        AimDesk x = pair();
        dueTrade("one is there", x, 2, 0, 1);
        x.ceiling(1, 9);
        dueNoTrade("none is", x);
        due("nothing was traded, mirror 0", x.mirror(0, 2), 0);
        due("nothing was traded, mirror 1", x.mirror(1, 2), 1);
    }

    @Edge(of = "Promise 15", words = "STATE: no FIELD")
    static void noFieldToTrade() {
        AimDesk x = page("3;9,3;1,1");
        for (int what = 0; what <= 2; what++) {
            int asked = what;
            refused(x, "trade(" + what + ")", STATE, () -> x.trade(asked));
        }
    }

    @Edge(of = "Promise 15", words = "OUTSIDE: what.")
    static void whatIsOutside() {
        AimDesk x = pair();
        for (int what : new int[] {-1, 3, 10, LEAST, MOST}) {
            refused(x, "trade(" + what + ")", OUTSIDE, () -> x.trade(what));
        }
    }

    // ---- promise 16

    @Edge(of = "Promise 16", words = "RELIEF, as bits; NONE.")
    static void theLeastAndTheMostBits() {
        dueRelief("no bits", heap(1), 1, 0);
        dueRelief("all bits", heap(1, 1, 1, 1, 1), 0, 31);
        dueRelief("the last bit", heap(2, 2, 2, 2, 1), 8, 16);
        AimDesk x = heap(1);
        x.stuck(0, true);
        dueRelief("none", x, 0, NONE);
        due("nothing was turned", x.mirror(0, 2), 0);
    }

    @Edge(of = "Promise 16", words = "STATE: no FIELD.")
    static void noFieldToRelieve() {
        AimDesk x = page("1;5,0");
        refused(x, "relief()", STATE, x::relief);
    }
}
