/** Promises 12 to 16: best, change, go, trade, relief. */
public final class PlansTest {
    private static final Check CHECK = new Check();
    private static final int NONE = AimDesk.NONE;

    public static void main(String[] args) {
        bestRefusals();
        best();
        bestSteady();
        bound();
        changeRefusals();
        change();
        changeWithWayAround();
        changeFromTooHot();
        changeSteady();
        go();
        trade();
        tradeAmongSeveral();
        relief();
        CHECK.finish();
    }

    private static void ceilings(AimDesk x, int... values) {
        for (int patch = 0; patch < values.length; patch++) {
            x.ceiling(patch, values[patch]);
        }
    }

    private static void aims(AimDesk x, int... values) {
        for (int mirror = 0; mirror < values.length; mirror++) {
            x.aim(mirror, values[mirror]);
            CHECK.due("aim of " + mirror, x.mirror(mirror, 2), values[mirror]);
        }
    }

    /** What best() answers for 0, 1, 10 to 14. */
    private static void dueBest(String what, AimDesk x, boolean steady, int... due) {
        for (int i = 0; i < due.length; i++) {
            int asked = i < 2 ? i : i + 8;
            CHECK.due(what + ", best(" + steady + ", " + asked + ")", x.best(steady, asked), due[i]);
        }
    }

    /** That CHANGE has just these moves. */
    private static void dueChange(String what, AimDesk x, boolean steady, int... due) {
        CHECK.due(what + ", change(" + steady + ", 0)", x.change(steady, 0), due.length);
        for (int i = 0; i < 15; i++) {
            int want = i < due.length ? due[i] : NONE;
            CHECK.due(what + ", change(" + steady + ", " + (10 + i) + ")", x.change(steady, 10 + i), want);
        }
    }

    private static void bestRefusals() {
        CHECK.due("12: no field", new AimDesk().best(false, 0), AimDesk.STATE);
        CHECK.due("12: STATE ahead of OUTSIDE", new AimDesk().best(true, 2), AimDesk.STATE);
        AimDesk x = Check.desk("1;5,0");
        for (int what : new int[] {-1, 2, 9, 15, Integer.MIN_VALUE, Integer.MAX_VALUE}) {
            CHECK.due("12: OUTSIDE " + what, x.best(false, what), AimDesk.OUTSIDE);
            CHECK.due("12: OUTSIDE " + what + ", steady", x.best(true, what), AimDesk.OUTSIDE);
        }
    }

    private static void best() {
        AimDesk x = Check.desk("1;5,0;5,0;5,0");
        dueBest("12: all fit", x, false, 15, 0, 0, 0, 0, NONE, NONE);
        x.ceiling(0, 10);
        dueBest("12: least aims of like ones", x, false, 10, 0, -1, 0, 0, NONE, NONE);
        x.ceiling(0, 7);
        dueBest("12: one fits", x, false, 5, 2, -1, -1, 0, NONE, NONE);
        x.stuck(2, true);
        dueBest("12: stuck away", x, false, 5, 2, -1, 0, -1, NONE, NONE);
        x.stuck(2, false);
        x.aim(0, 0);
        x.stuck(0, true);
        dueBest("12: stuck at 0", x, false, 5, 2, 0, -1, -1, NONE, NONE);
        x.ceiling(0, 4);
        dueBest("12: none", x, false, NONE, NONE, NONE, NONE, NONE, NONE, NONE);
        dueBest("12: none steady", x, true, NONE, NONE, NONE, NONE, NONE, NONE, NONE);
        CHECK.due("12: OUTSIDE though none", x.best(false, 2), AimDesk.OUTSIDE);
        dueBest("12: mirror 0 first of like ones", Check.desk("2;5,1;5,1"), false, 12, 0, 0, 0, NONE, NONE, NONE);
        AimDesk five = Check.desk("4;9,9;9,9;9,9;9,9;9,9");
        ceilings(five, 60, 60, 60, 60);
        dueBest("12: five mirrors, all in the middle", five, false, 135, 0, 1, 1, 1, 1, 1);
        ceilings(five, 0, 0, 0, 0);
        dueBest("12: five mirrors, all away", five, false, 0, 0, -1, -1, -1, -1, -1);
    }

    private static void bestSteady() {
        AimDesk x = Check.desk("1;5,0;5,0");
        x.ceiling(0, 5);
        x.aim(0, 0);
        x.stuck(0, true);
        x.shade(1);
        dueBest("12: good under the cloud", x, false, 5, 0, 0, 0, NONE);
        dueBest("12: good also when it passes", x, true, 0, 5, 0, -1, NONE);
        x.stuck(0, false);
        dueBest("12: a shaded mirror turns away", x, true, 5, 0, -1, 0, NONE);
        dueBest("12: least aim of a shaded one", x, false, 5, 0, -1, 0, NONE);
    }

    private static void bound() {
        AimDesk x = Check.desk("3;9,3;2,1");
        ceilings(x, 60, 60, 60);
        CHECK.due("12: bound by mirrors", x.best(false, 1), 0);
        CHECK.due("12: caught", x.best(false, 0), 15 + 4);
        ceilings(x, 9, 1, 60);
        CHECK.due("12: bound by mirrors, not reached", x.best(false, 1), 19 - x.best(false, 0));
        ceilings(x, 8, 1, 2);
        CHECK.due("12: bound by ceilings", x.best(false, 0) + x.best(false, 1), 11);
        ceilings(x, 60, 60, 60);
        CHECK.due("12: caught again", x.best(false, 0), 19);
        x.shade(1);
        CHECK.due("12: caught without shaded ones", x.best(false, 0), 4);
        CHECK.due("12: bound without shaded ones", x.best(false, 0) + x.best(false, 1), 4);
        CHECK.due("12: bound, steady, without shaded ones", x.best(true, 0) + x.best(true, 1), 4);
        x.shade(0);
        x.aim(0, 0);
        x.stuck(0, true);
        CHECK.due("12: bound by a stuck one's aim", x.best(false, 0) + x.best(false, 1), 12 + 4);
        x.shade(1);
        CHECK.due("12: bound without a stuck, shaded one", x.best(false, 0) + x.best(false, 1), 4);
        x.shade(0);
        x.stuck(0, false);
        x.aim(0, -1);
        x.stuck(0, true);
        CHECK.due("12: bound without a stuck one away", x.best(false, 0) + x.best(false, 1), 4);
    }

    private static void changeRefusals() {
        CHECK.due("13: no field", new AimDesk().change(false, 0), AimDesk.STATE);
        CHECK.due("13: STATE ahead of OUTSIDE", new AimDesk().change(true, 1), AimDesk.STATE);
        AimDesk x = Check.desk("1;5,0");
        for (int what : new int[] {-1, 1, 9, 25, Integer.MIN_VALUE, Integer.MAX_VALUE}) {
            CHECK.due("13: OUTSIDE " + what, x.change(false, what), AimDesk.OUTSIDE);
            CHECK.due("13: OUTSIDE " + what + ", steady", x.change(true, what), AimDesk.OUTSIDE);
        }
    }

    private static void change() {
        AimDesk x = Check.desk("1;5,0;5,0");
        dueChange("13: two moves, the least first", x, false, 1, 9);
        dueChange("13: steady likewise", x, true, 1, 9);
        aims(x, 0, 0);
        dueChange("13: there already", x, false);
        x.ceiling(0, 5);
        dueChange("13: one has to turn away", x, false, 0);
        AimDesk y = Check.desk("2;9,0;5,0");
        ceilings(y, 9, 5);
        aims(y, -1, 0);
        dueChange("13: room is made first", y, false, 10, 1);
        y.stuck(1, true);
        dueChange("13: BEST of those with it stuck", y, false);
        CHECK.due("13: which is 5", y.best(false, 0), 5);
        AimDesk five = Check.desk("4;1,1;1,1;1,1;1,1;1,1");
        dueChange("13: five moves", five, false, 2, 10, 18, 26, 34);
        AimDesk away = Check.desk("2;5,0;5,1");
        aims(away, 0, -1);
        ceilings(away, 0, 0);
        dueChange("13: one turns away, none aims then", away, false, 0);
    }

    private static void changeWithWayAround() {
        AimDesk x = Check.desk("2;5,0;5,0");
        ceilings(x, 5, 5);
        aims(x, 1, 0);
        dueBest("13: the other way about", x, false, 10, 0, 0, 1, NONE);
        dueChange("13: one turns away meanwhile", x, false, 0, 10, 1);
        x.ceiling(1, 10);
        dueChange("13: both at 1 meanwhile", x, false, 10, 1);
        ceilings(x, 10, 5);
        dueBest("13: both at 0 are like ones", x, false, 10, 0, 0, 0, NONE);
        dueChange("13: and nearer", x, false, 1);
    }

    private static void changeFromTooHot() {
        AimDesk x = Check.desk("1;5,0;5,0;5,0");
        aims(x, 0, 0, 0);
        x.ceiling(0, 10);
        dueChange("13: too hot only ahead of the first move", x, false, 0);
        x.ceiling(0, 5);
        CHECK.due("13: there is a BEST", x.best(false, 0), 5);
        CHECK.due("13: but too hot behind any first move", x.change(false, 0), NONE);
        CHECK.due("13: no first move", x.change(false, 10), NONE);
        CHECK.due("14: no CHANGE", x.go(false), AimDesk.STATE);
        x.stuck(0, true);
        x.stuck(1, true);
        CHECK.due("13: no BEST", x.change(false, 0), NONE);
        CHECK.due("13: no move without BEST", x.change(false, 10), NONE);
        CHECK.due("14: no BEST", x.go(false), AimDesk.STATE);
        CHECK.due("14: no aim was given", x.count(9), 3);
    }

    private static void changeSteady() {
        AimDesk x = Check.desk("2;5,0;5,0");
        ceilings(x, 5, 5);
        aims(x, 1, 0);
        x.shade(1);
        dueBest("13: a shaded one away", x, false, 5, 0, -1, 0, NONE);
        dueChange("13: so it turns", x, false, 0);
        dueBest("13: a shaded one away, steady", x, true, 5, 0, -1, 0, NONE);
        x.ceiling(0, 4);
        dueBest("13: the other patch", x, false, 5, 0, -1, 1, NONE);
        dueChange("13: SAFE behind each, so the one that is too hot first", x, false, 10, 0);
        x.ceiling(0, 5);
        aims(x, -1, 1);
        x.stuck(1, true);
        dueChange("13: there, with it stuck", x, true);
        x.stuck(1, false);
        x.shade(2);
        aims(x, 1, 1);
        CHECK.due("13: not steady now", x.count(5), 0);
        x.ceiling(0, 0);
        dueBest("13: steady and caught by 0", x, true, 5, 0, 1, -1, NONE);
        dueChange("13: first move makes it steady", x, true, 8);
    }

    private static void go() {
        CHECK.due("14: no field", new AimDesk().go(false), AimDesk.STATE);
        AimDesk x = Check.desk("2;5,0;5,0");
        ceilings(x, 5, 5);
        aims(x, 1, 0);
        CHECK.due("14: two are left", x.go(false), 2);
        CHECK.due("14: the first is done", x.mirror(0, 2), -1);
        dueChange("14: these are left", x, false, 10, 1);
        CHECK.due("14: one is left", x.go(true), 1);
        CHECK.due("14: none is left", x.go(false), 0);
        CHECK.due("14: aim of 0", x.mirror(0, 2), 0);
        CHECK.due("14: aim of 1", x.mirror(1, 2), 1);
        CHECK.due("14: no moves", x.go(false), AimDesk.STATE);
        CHECK.due("14: no moves, steady", x.go(true), AimDesk.STATE);
        CHECK.due("14: aims given", x.count(9), 5);
        x.shade(1);
        x.ceiling(0, 4);
        CHECK.due("14: steady, from not steady", x.go(true), 0);
        CHECK.due("14: a shaded one turned", x.mirror(0, 2), -1);
    }

    private static void dueTrade(String what, AimDesk x, int more, int first, int second) {
        CHECK.due(what + ", trade(0)", x.trade(0), more);
        CHECK.due(what + ", trade(1)", x.trade(1), first);
        CHECK.due(what + ", trade(2)", x.trade(2), second);
    }

    private static void trade() {
        CHECK.due("15: no field", new AimDesk().trade(0), AimDesk.STATE);
        CHECK.due("15: STATE ahead of OUTSIDE", new AimDesk().trade(3), AimDesk.STATE);
        AimDesk x = Check.desk("3;9,3;1,1");
        CHECK.due("15: OUTSIDE 3", x.trade(3), AimDesk.OUTSIDE);
        CHECK.due("15: OUTSIDE -1", x.trade(-1), AimDesk.OUTSIDE);
        dueTrade("15: like aims", x, NONE, NONE, NONE);
        aims(x, 0, 1);
        dueTrade("15: more in the middle", x, 2, 0, 1);
        CHECK.due("15: aims stay", x.mirror(0, 2), 0);
        CHECK.due("15: other aims stay", x.mirror(1, 2), 1);
        ceilings(x, 20, 9, 20);
        dueTrade("15: too hot behind it", x, NONE, NONE, NONE);
        ceilings(x, 4, 10, 4);
        dueTrade("15: safe behind it though not ahead", x, 2, 0, 1);
        ceilings(x, 20, 20, 20);
        x.stuck(0, true);
        dueTrade("15: the first stuck", x, NONE, NONE, NONE);
        x.stuck(0, false);
        x.stuck(1, true);
        dueTrade("15: the second stuck", x, NONE, NONE, NONE);
        x.stuck(1, false);
        aims(x, -1, 0);
        dueTrade("15: one away", x, 10, 0, 1);
        x.shade(2);
        dueTrade("15: one away, a shaded one there", x, 12, 0, 1);
        x.shade(1);
        dueTrade("15: less would be caught", x, NONE, NONE, NONE);
        AimDesk y = Check.desk("2;3,1;3,1");
        aims(y, 0, 1);
        dueTrade("15: no more", y, NONE, NONE, NONE);
    }

    private static void tradeAmongSeveral() {
        AimDesk x = Check.desk("1;2,0;2,0;1,0;2,0");
        aims(x, -1, -1, 0, -1);
        dueTrade("15: the least first one", x, 1, 0, 2);
        AimDesk y = Check.desk("1;2,0;3,0;1,0");
        aims(y, -1, -1, 0);
        dueTrade("15: most more", y, 2, 1, 2);
        AimDesk z = Check.desk("1;1,0;2,0;2,0");
        aims(z, 0, -1, -1);
        dueTrade("15: the least second one", z, 1, 0, 1);
        z.stuck(1, true);
        dueTrade("15: then the next", z, 1, 0, 2);
    }

    private static void relief() {
        CHECK.due("16: no field", new AimDesk().relief(), AimDesk.STATE);
        AimDesk x = Check.desk("1;5,0;5,0;3,0");
        CHECK.due("16: all away", x.relief(), 0);
        aims(x, 0, 0, 0);
        CHECK.due("16: all is safe", x.relief(), 0);
        x.ceiling(0, 13);
        CHECK.due("16: just safe", x.relief(), 0);
        x.ceiling(0, 10);
        CHECK.due("16: most caught then", x.relief(), 4);
        x.ceiling(0, 9);
        CHECK.due("16: least sum", x.relief(), 1);
        x.ceiling(0, 7);
        CHECK.due("16: two, most caught, least sum", x.relief(), 5);
        x.ceiling(0, 4);
        CHECK.due("16: two that leave the least one", x.relief(), 3);
        x.ceiling(0, 0);
        CHECK.due("16: all", x.relief(), 7);
        x.ceiling(0, 7);
        x.stuck(0, true);
        CHECK.due("16: no stuck one", x.relief(), 6);
        x.stuck(1, true);
        CHECK.due("16: none", x.relief(), NONE);
        x.shade(1);
        CHECK.due("16: a stuck one under a cloud", x.relief(), 4);
        CHECK.due("16: aims stay", x.patch(0, 3), 3);
        reliefOfFive();
    }

    private static void reliefOfFive() {
        AimDesk x = Check.desk("1;5,0;4,0;3,0;2,0;1,0");
        aims(x, 0, 0, 0, 0, 0);
        x.ceiling(0, 0);
        CHECK.due("16: all five", x.relief(), 31);
        x.ceiling(0, 1);
        CHECK.due("16: four of five", x.relief(), 15);
        x.ceiling(0, 14);
        CHECK.due("16: the last one", x.relief(), 16);
        x.stuck(4, true);
        CHECK.due("16: the last one stuck", x.relief(), 8);
    }
}
