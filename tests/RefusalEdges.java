import java.util.function.IntSupplier;

/** The sentence on refusals, call by call. */
final class RefusalEdges extends EdgeCases {
    private static final String FIRST = "Refusals, of several the first as told by each call";

    @Edge(of = "Terms", words = FIRST)
    static void letterOutsideAheadOfFull() {
        AimDesk x = page(LARGEST);
        refused(x, "letter(31) of a full page", OUTSIDE, () -> x.letter(31));
        refused(x, "letter(127) of a full page", OUTSIDE, () -> x.letter(127));
    }

    @Edge(of = "Terms", words = FIRST)
    static void ceilingUnknownAheadOfOutside() {
        AimDesk x = desk("2;1,1");
        refused(x, "ceiling(2, 61)", UNKNOWN, () -> x.ceiling(2, 61));
        refused(x, "ceiling(-1, -1)", UNKNOWN, () -> x.ceiling(-1, -1));
        AimDesk none = new AimDesk();
        refused(none, "no field, ceiling(0, 61)", UNKNOWN, () -> none.ceiling(0, 61));
    }

    @Edge(of = "Terms", words = FIRST)
    static void shadeStateAheadOfOutside() {
        AimDesk none = new AimDesk();
        refused(none, "no field, shade(-1)", STATE, () -> none.shade(-1));
        refused(none, "no field, shade(32)", STATE, () -> none.shade(32));
    }

    @Edge(of = "Terms", words = FIRST)
    static void aimUnknownAheadOfOutsideAheadOfState() {
        AimDesk x = desk("2;9,1");
        ceilings(x, 0, 0);
        x.stuck(0, true);
        refused(x, "aim(1, 2)", UNKNOWN, () -> x.aim(1, 2));
        refused(x, "aim(-1, -2)", UNKNOWN, () -> x.aim(-1, -2));
        refused(x, "stuck, aim(0, 2)", OUTSIDE, () -> x.aim(0, 2));
        refused(x, "stuck, aim(0, -2)", OUTSIDE, () -> x.aim(0, -2));
        refused(x, "stuck and too hot, aim(0, 1)", STATE, () -> x.aim(0, 1));
        AimDesk none = new AimDesk();
        refused(none, "no field, aim(0, -2)", UNKNOWN, () -> none.aim(0, -2));
    }

    @Edge(of = "Terms", words = FIRST)
    static void mirrorUnknownAheadOfOutside() {
        AimDesk x = desk("2;9,1");
        refused(x, "mirror(1, 6)", UNKNOWN, () -> x.mirror(1, 6));
        refused(x, "mirror(-1, -1)", UNKNOWN, () -> x.mirror(-1, -1));
        AimDesk none = new AimDesk();
        refused(none, "no field, mirror(0, 6)", UNKNOWN, () -> none.mirror(0, 6));
    }

    @Edge(of = "Terms", words = FIRST)
    static void patchUnknownAheadOfOutside() {
        AimDesk x = desk("2;9,1");
        refused(x, "patch(2, 4)", UNKNOWN, () -> x.patch(2, 4));
        refused(x, "patch(-1, -1)", UNKNOWN, () -> x.patch(-1, -1));
        AimDesk none = new AimDesk();
        refused(none, "no field, patch(0, 4)", UNKNOWN, () -> none.patch(0, 4));
    }

    @Edge(of = "Terms", words = FIRST)
    static void bestStateAheadOfOutside() {
        AimDesk none = new AimDesk();
        refused(none, "no field, best(false, 2)", STATE, () -> none.best(false, 2));
        refused(none, "no field, best(true, 15)", STATE, () -> none.best(true, 15));
    }

    @Edge(of = "Terms", words = FIRST)
    static void changeStateAheadOfOutside() {
        AimDesk none = new AimDesk();
        refused(none, "no field, change(false, 1)", STATE, () -> none.change(false, 1));
        refused(none, "no field, change(true, 25)", STATE, () -> none.change(true, 25));
    }

    @Edge(of = "Terms", words = FIRST)
    static void tradeStateAheadOfOutside() {
        AimDesk none = new AimDesk();
        refused(none, "no field, trade(3)", STATE, () -> none.trade(3));
        refused(none, "no field, trade(-1)", STATE, () -> none.trade(-1));
    }

    @Edge(of = "Terms", words = FIRST)
    static void outsideThoughThereIsNone() {
        AimDesk x = desk("1;5,0");
        x.aim(0, 0);
        x.stuck(0, true);
        x.ceiling(0, 4);
        refused(x, "no BEST, best(false, 2)", OUTSIDE, () -> x.best(false, 2));
        refused(x, "no CHANGE, change(false, 25)", OUTSIDE, () -> x.change(false, 25));
        refused(x, "no TRADE, trade(3)", OUTSIDE, () -> x.trade(3));
    }

    @Edge(of = "Terms",
        words = "UNKNOWN (a number names nothing), OUTSIDE (it is not as told), STATE (as told), FULL")
    static void theFourAnswers() {
        AimDesk x = page(LARGEST);
        due("a patch that is not there", x.ceiling(0, 5), -1002);
        due("a code that is none", x.letter(31), -1003);
        due("no field", x.relief(), -1004);
        due("a full page", x.letter(32), -1005);
        x.field();
        due("no trade", x.trade(0), -1001);
    }

    private static final String NOTHING = "they change nothing.";

    /** A field of which something is told, with letters on the page. */
    private static AimDesk busy() {
        AimDesk x = desk("3;9,3;8,2;7,4");
        ceilings(x, 12, 9, 20);
        aims(x, 0, 2);
        x.stuck(1, true);
        x.shade(4);
        return Check.write(x, "2;4");
    }

    /** Looks at all calls that only tell, ahead of a refused call and behind it. */
    private static void dueNothing(AimDesk x, String call, int want, IntSupplier made) {
        int[] ahead = looks(x);
        refused(x, call, want, made);
        int[] behind = looks(x);
        for (int i = 0; i < ahead.length; i++) {
            due(call + " was refused; look " + i, behind[i], ahead[i]);
        }
        due(call + " again", made.getAsInt(), want);
    }

    private static int[] looks(AimDesk x) {
        int[] looks = new int[10 + 3 * 6 + 3 * 4 + 1];
        int next = 0;
        for (int what = 0; what <= 9; what++) {
            looks[next++] = x.count(what);
        }
        for (int number = 0; number < 3; number++) {
            for (int what = 0; what <= 5; what++) {
                looks[next++] = x.mirror(number, what);
            }
            for (int what = 0; what <= 3; what++) {
                looks[next++] = x.patch(number, what);
            }
        }
        looks[next] = x.fault();
        return looks;
    }

    @Edge(of = "Terms", words = NOTHING)
    static void nothingByARefusedLetter() {
        AimDesk x = busy();
        dueNothing(x, "letter(127)", OUTSIDE, () -> x.letter(127));
        Check.write(x, ",1;1,1;1,1;1,1;1,1");
        due("the page is full", x.count(2), 21);
        dueNothing(x, "letter('1')", FULL, () -> x.letter('1'));
        due("field() of that page", x.field(), 5);
    }

    @Edge(of = "Terms", words = NOTHING)
    static void nothingByARefusedField() {
        AimDesk x = busy();
        dueNothing(x, "field()", STATE, x::field);
        Check.write(x, ",1");
        due("field() of what it was and more", x.field(), 1);
    }

    @Edge(of = "Terms", words = NOTHING)
    static void nothingByARefusedCeiling() {
        AimDesk x = busy();
        dueNothing(x, "ceiling(3, 5)", UNKNOWN, () -> x.ceiling(3, 5));
        dueNothing(x, "ceiling(2, 61)", OUTSIDE, () -> x.ceiling(2, 61));
    }

    @Edge(of = "Terms", words = NOTHING)
    static void nothingByARefusedShade() {
        AimDesk x = busy();
        dueNothing(x, "shade(8)", OUTSIDE, () -> x.shade(8));
        dueNothing(x, "shade(-1)", OUTSIDE, () -> x.shade(-1));
        AimDesk none = new AimDesk();
        refused(none, "no field, shade(1)", STATE, () -> none.shade(1));
        Check.write(none, "1;1,1").field();
        due("not shaded when a field is read", none.count(6), 0);
    }

    @Edge(of = "Terms", words = NOTHING)
    static void nothingByARefusedStuck() {
        AimDesk x = busy();
        dueNothing(x, "stuck(3, true)", UNKNOWN, () -> x.stuck(3, true));
        dueNothing(x, "stuck(33, false)", UNKNOWN, () -> x.stuck(33, false));
    }

    @Edge(of = "Terms", words = NOTHING)
    static void nothingByARefusedAim() {
        AimDesk x = busy();
        dueNothing(x, "aim(3, 0)", UNKNOWN, () -> x.aim(3, 0));
        dueNothing(x, "aim(0, 3)", OUTSIDE, () -> x.aim(0, 3));
        dueNothing(x, "stuck, aim(1, 0)", STATE, () -> x.aim(1, 0));
        dueNothing(x, "stuck, aim(1, -1)", STATE, () -> x.aim(1, -1));
        x.ceiling(1, 8);
        dueNothing(x, "too hot then, aim(0, 1)", STATE, () -> x.aim(0, 1));
    }

    @Edge(of = "Terms", words = NOTHING)
    static void nothingByARefusedGo() {
        AimDesk x = busy();
        x.ceiling(2, 7);
        due("no BEST", x.best(false, 0), NONE);
        dueNothing(x, "go(false)", STATE, () -> x.go(false));
        dueNothing(x, "go(true)", STATE, () -> x.go(true));
    }

    @Edge(of = "Terms", words = NOTHING)
    static void nothingByARefusedLook() {
        AimDesk x = busy();
        dueNothing(x, "mirror(3, 0)", UNKNOWN, () -> x.mirror(3, 0));
        dueNothing(x, "mirror(0, 6)", OUTSIDE, () -> x.mirror(0, 6));
        dueNothing(x, "patch(3, 0)", UNKNOWN, () -> x.patch(3, 0));
        dueNothing(x, "patch(0, 4)", OUTSIDE, () -> x.patch(0, 4));
        dueNothing(x, "count(10)", OUTSIDE, () -> x.count(10));
    }

    @Edge(of = "Terms", words = NOTHING)
    static void nothingByARefusedPlan() {
        AimDesk x = busy();
        dueNothing(x, "best(false, 2)", OUTSIDE, () -> x.best(false, 2));
        dueNothing(x, "change(true, 9)", OUTSIDE, () -> x.change(true, 9));
        dueNothing(x, "trade(3)", OUTSIDE, () -> x.trade(3));
    }
}
