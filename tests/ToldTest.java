/** Promises 6 to 9: ceiling, shade, stuck, aim. */
public final class ToldTest {
    private static final Check CHECK = new Check();

    public static void main(String[] args) {
        ceiling();
        shade();
        stuck();
        aim();
        CHECK.finish();
    }

    private static void ceiling() {
        CHECK.due("6: no field", new AimDesk().ceiling(0, 5), AimDesk.UNKNOWN);
        AimDesk x = Check.desk("2;5,2");
        CHECK.due("6: UNKNOWN 2", x.ceiling(2, 5), AimDesk.UNKNOWN);
        CHECK.due("6: UNKNOWN -1", x.ceiling(-1, 5), AimDesk.UNKNOWN);
        CHECK.due("6: UNKNOWN max", x.ceiling(Integer.MAX_VALUE, 5), AimDesk.UNKNOWN);
        CHECK.due("6: UNKNOWN ahead of OUTSIDE", x.ceiling(2, 61), AimDesk.UNKNOWN);
        CHECK.due("6: OUTSIDE 61", x.ceiling(1, 61), AimDesk.OUTSIDE);
        CHECK.due("6: OUTSIDE -1", x.ceiling(1, -1), AimDesk.OUTSIDE);
        CHECK.due("6: OUTSIDE min", x.ceiling(1, Integer.MIN_VALUE), AimDesk.OUTSIDE);
        CHECK.due("6: refusals change nothing", x.patch(1, 1), 20);
        CHECK.due("6: 60", x.ceiling(1, 60), 20);
        CHECK.due("6: 0", x.ceiling(1, 0), 60);
        CHECK.due("6: what it is now", x.patch(1, 1), 0);
        CHECK.due("6: the other one stays", x.patch(0, 1), 20);
        x.ceiling(1, 2);
        x.aim(0, 0);
        CHECK.due("6: as hot as the ceiling is safe", x.count(4), 1);
        CHECK.due("6: it may go below the heat", x.ceiling(1, 1), 2);
        CHECK.due("6: and then is too hot", x.count(4), 0);
        CHECK.due("6: the aim stays", x.mirror(0, 2), 0);
    }

    private static void shade() {
        CHECK.due("7: no field", new AimDesk().shade(0), AimDesk.STATE);
        CHECK.due("7: STATE ahead of OUTSIDE", new AimDesk().shade(-1), AimDesk.STATE);
        AimDesk x = Check.desk("3;5,2;4,1;3,3");
        CHECK.due("7: OUTSIDE 8", x.shade(8), AimDesk.OUTSIDE);
        CHECK.due("7: OUTSIDE -1", x.shade(-1), AimDesk.OUTSIDE);
        CHECK.due("7: OUTSIDE max", x.shade(Integer.MAX_VALUE), AimDesk.OUTSIDE);
        CHECK.due("7: OUTSIDE min", x.shade(Integer.MIN_VALUE), AimDesk.OUTSIDE);
        CHECK.due("7: all", x.shade(7), 0);
        CHECK.due("7: just these", x.shade(2), 7);
        CHECK.due("7: which are", x.count(6), 2);
        x.aim(0, 1);
        x.aim(1, 1);
        CHECK.due("7: shaded gives nothing", x.count(3), 9);
        CHECK.due("7: none", x.shade(0), 2);
        CHECK.due("7: gives again", x.count(3), 15);
        x.ceiling(1, 8);
        CHECK.due("7: shade while too hot", x.shade(1), 0);
        CHECK.due("7: safe by clouds", x.count(4), 1);
        CHECK.due("7: not steady", x.count(5), 0);
        CHECK.due("7: clouds may pass", x.shade(0), 1);
        CHECK.due("7: too hot then", x.count(4), 0);
        CHECK.due("7: five mirrors", Check.desk("1;1,1;1,1;1,1;1,1;1,1").shade(31), 0);
        CHECK.due("7: no sixth", Check.desk("1;1,1;1,1;1,1;1,1;1,1").shade(32), AimDesk.OUTSIDE);
    }

    private static void stuck() {
        CHECK.due("8: no field", new AimDesk().stuck(0, true), AimDesk.UNKNOWN);
        AimDesk x = Check.desk("2;5,2;4,1");
        CHECK.due("8: UNKNOWN 2", x.stuck(2, true), AimDesk.UNKNOWN);
        CHECK.due("8: UNKNOWN -1", x.stuck(-1, true), AimDesk.UNKNOWN);
        CHECK.due("8: UNKNOWN 33", x.stuck(33, true), AimDesk.UNKNOWN);
        CHECK.due("8: refusals change nothing", x.count(7), 0);
        CHECK.due("8: stuck", x.stuck(1, true), 0);
        CHECK.due("8: stuck again", x.stuck(1, true), 1);
        CHECK.due("8: which are", x.count(7), 2);
        CHECK.due("8: another", x.stuck(0, true), 0);
        CHECK.due("8: not any more", x.stuck(1, false), 1);
        CHECK.due("8: not again", x.stuck(1, false), 0);
        CHECK.due("8: which are now", x.count(7), 1);
    }

    private static void aim() {
        CHECK.due("9: no field", new AimDesk().aim(0, 0), AimDesk.UNKNOWN);
        AimDesk x = Check.desk("3;9,3;8,2");
        CHECK.due("9: UNKNOWN 2", x.aim(2, 0), AimDesk.UNKNOWN);
        CHECK.due("9: UNKNOWN -1", x.aim(-1, 0), AimDesk.UNKNOWN);
        CHECK.due("9: UNKNOWN ahead of OUTSIDE", x.aim(2, 3), AimDesk.UNKNOWN);
        CHECK.due("9: OUTSIDE 3", x.aim(0, 3), AimDesk.OUTSIDE);
        CHECK.due("9: OUTSIDE -2", x.aim(0, -2), AimDesk.OUTSIDE);
        CHECK.due("9: OUTSIDE max", x.aim(0, Integer.MAX_VALUE), AimDesk.OUTSIDE);
        CHECK.due("9: an aim", x.aim(0, 1), -1);
        CHECK.due("9: the same", x.aim(0, 1), 1);
        CHECK.due("9: another", x.aim(0, 2), 1);
        CHECK.due("9: given so often", x.count(9), 3);
        x.ceiling(2, 10);
        CHECK.due("9: beside it too hot", x.aim(1, 1), AimDesk.STATE);
        CHECK.due("9: as hot as the ceiling", x.ceiling(2, 11), 10);
        CHECK.due("9: is not too hot", x.aim(1, 1), -1);
        x.stuck(0, true);
        CHECK.due("9: stuck", x.aim(0, 0), AimDesk.STATE);
        CHECK.due("9: stuck, away", x.aim(0, -1), AimDesk.STATE);
        CHECK.due("9: stuck, OUTSIDE first", x.aim(0, 3), AimDesk.OUTSIDE);
        x.ceiling(2, 5);
        CHECK.due("9: some patch stays too hot", x.aim(1, 0), AimDesk.STATE);
        CHECK.due("9: also by the aim that it has", x.aim(1, 1), AimDesk.STATE);
        CHECK.due("9: away is no question of heat", x.aim(1, -1), 1);
        CHECK.due("9: refusals are not counted", x.count(9), 5);
        CHECK.due("9: nor change aims", x.mirror(0, 2), 2);
        aimWhileShaded();
    }

    private static void aimWhileShaded() {
        AimDesk x = Check.desk("1;9,0;9,0;9,0");
        CHECK.due("9: first", x.aim(0, 0), -1);
        CHECK.due("9: second", x.aim(1, 0), -1);
        CHECK.due("9: third is too hot", x.aim(2, 0), AimDesk.STATE);
        x.shade(4);
        CHECK.due("9: third, shaded, gives nothing", x.aim(2, 0), -1);
        x.shade(0);
        CHECK.due("9: too hot behind the clouds", x.aim(2, 0), AimDesk.STATE);
        CHECK.due("9: its aim stays", x.mirror(2, 2), 0);
    }
}
