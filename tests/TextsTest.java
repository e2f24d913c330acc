/** Promises 1 to 5: a new object, letter, blank, fault, field. */
public final class TextsTest {
    private static final Check CHECK = new Check();

    public static void main(String[] args) {
        newObject();
        letter();
        blank();
        fault();
        field();
        CHECK.finish();
    }

    private static void newObject() {
        AimDesk x = new AimDesk();
        for (int what = 0; what <= 9; what++) {
            boolean true1 = what == 4 || what == 5;
            CHECK.due("1: count(" + what + ")", x.count(what), true1 ? 1 : 0);
        }
        CHECK.due("1: mirror(0, 0)", x.mirror(0, 0), AimDesk.UNKNOWN);
        CHECK.due("1: patch(0, 0)", x.patch(0, 0), AimDesk.UNKNOWN);
        CHECK.due("1: relief()", x.relief(), AimDesk.STATE);
        CHECK.due("1: blank()", x.blank(), 0);
        CHECK.due("1: objects are apart", Check.write(x, "1").count(2) - new AimDesk().count(2), 1);
    }

    private static void letter() {
        AimDesk x = new AimDesk();
        CHECK.due("2: letter(31)", x.letter(31), AimDesk.OUTSIDE);
        CHECK.due("2: letter(127)", x.letter(127), AimDesk.OUTSIDE);
        CHECK.due("2: letter(-1)", x.letter(-1), AimDesk.OUTSIDE);
        CHECK.due("2: letter(min)", x.letter(Integer.MIN_VALUE), AimDesk.OUTSIDE);
        CHECK.due("2: letter(max)", x.letter(Integer.MAX_VALUE), AimDesk.OUTSIDE);
        CHECK.due("2: letter(32)", x.letter(32), 1);
        CHECK.due("2: letter(126)", x.letter(126), 2);
        for (int i = 3; i <= 21; i++) {
            CHECK.due("2: letter " + i, x.letter('a'), i);
        }
        CHECK.due("2: letter 22", x.letter('a'), AimDesk.FULL);
        CHECK.due("2: OUTSIDE ahead of FULL", x.letter(127), AimDesk.OUTSIDE);
        CHECK.due("2: refusals change nothing", x.count(2), 21);
    }

    private static void blank() {
        AimDesk x = new AimDesk();
        CHECK.due("3: blank() of an empty page", x.blank(), 0);
        Check.write(x, "3;9");
        CHECK.due("3: blank()", x.blank(), 3);
        CHECK.due("3: blank() again", x.blank(), 0);
        CHECK.due("3: letters of the page", x.count(2), 0);
        Check.write(x, "1234567890abcdefghijk");
        CHECK.due("3: blank() of a full page", x.blank(), 21);
        CHECK.due("3: letter behind it", x.letter('4'), 1);
        AimDesk y = Check.desk("2;3,1");
        y.blank();
        CHECK.due("3: the field stays", y.count(0), 1);
    }

    private static int faultOf(String text) {
        return Check.write(new AimDesk(), text).fault();
    }

    private static void fault() {
        String[] texts = {"", "0", "1", "4", "5", "x", "1,", "1;", "1;0", "1;1", "1;9", "1;1;", "1;1,", "1;1,x",
            "1;1,0", "1;1,9", "1;1,10", "1;1,1;", "1;1,1,", "1;1,1;0", " 1;1,1", "1;1,1 ", "4;9,9;9,9;9,9;9,9;9,9",
            "4;9,9;9,9;9,9;9,9;9.9", "4;9,9;9,9;9,9;9,9;0,9", "9;9,9;9,9", "1;:,1", "1;1,:", "1;1,/", "3;/,1"};
        int[] places = {0, 0, 1, 1, 0, 0, 1, 2, 2, 3, 3, 3, 4, 4,
            5, 5, 5, 6, 5, 6, 0, 5, 21,
            19, 18, 0, 2, 4, 4, 2};
        for (int i = 0; i < texts.length; i++) {
            CHECK.due("4: fault() of '" + texts[i] + "'", faultOf(texts[i]), places[i]);
        }
        AimDesk x = Check.write(new AimDesk(), "1;1,x");
        x.fault();
        CHECK.due("4: fault() leaves the page", x.count(2), 5);
    }

    private static void field() {
        String[] none = {"", "1", "1;", "1;1", "1;1,", "0;1,1", "5;1,1", "1;0,1", "1;1,1;", "1;1,1;2", "1;1,1;2,",
            "1;1,1;0,1", "1;1,1 ", "x"};
        for (String text : none) {
            AimDesk x = Check.write(new AimDesk(), text);
            CHECK.due("5: field() of '" + text + "'", x.field(), AimDesk.STATE);
            CHECK.due("5: the page stays", x.count(2), text.length());
            CHECK.due("5: none was read", x.count(8), 0);
        }
        CHECK.due("5: one mirror", Check.write(new AimDesk(), "1;1,0").field(), 1);
        CHECK.due("5: five mirrors", Check.write(new AimDesk(), "4;9,9;8,8;7,7;6,6;5,5").field(), 5);
        AimDesk x = Check.desk("3;9,3;8,2");
        CHECK.due("5: the page is empty", x.count(2), 0);
        CHECK.due("5: patches", x.count(1), 3);
        CHECK.due("5: middle of 1", x.mirror(1, 0), 8);
        CHECK.due("5: side of 1", x.mirror(1, 1), 2);
        CHECK.due("5: away at first", x.mirror(0, 2), -1);
        CHECK.due("5: ceiling at first", x.patch(2, 1), 20);
        anotherField(x);
    }

    private static void anotherField(AimDesk x) {
        x.aim(0, 1);
        x.ceiling(0, 9);
        x.ceiling(1, 8);
        x.shade(2);
        x.stuck(0, true);
        Check.write(x, "2;4,1;3,3;2,2;x,1");
        CHECK.due("5: refused", x.field(), AimDesk.STATE);
        CHECK.due("5: the old one stays", x.mirror(0, 4), 1);
        CHECK.due("5: with its aims", x.mirror(0, 2), 1);
        x.blank();
        CHECK.due("5: best of the old one", x.best(false, 0), AimDesk.NONE);
        Check.write(x, "2;4,1;3,3;2,2");
        CHECK.due("5: another one", x.field(), 3);
        CHECK.due("5: its patches", x.count(1), 2);
        CHECK.due("5: its mirror", x.mirror(0, 0), 4);
        CHECK.due("5: aim gone", x.mirror(0, 2), -1);
        CHECK.due("5: ceiling gone", x.patch(0, 1), 20);
        CHECK.due("5: other ceiling gone", x.patch(1, 1), 20);
        CHECK.due("5: shade gone", x.count(6), 0);
        CHECK.due("5: stuck gone", x.count(7), 0);
        CHECK.due("5: heat gone", x.count(3), 0);
        CHECK.due("5: how often read", x.count(8), 2);
        CHECK.due("5: aims given stay", x.count(9), 1);
        CHECK.due("5: best is of the new one", x.best(false, 0), 5 + 6 + 4);
    }
}
