/** Compares answers with those that are due, and ends a test with exit code 1 if one is not. */
final class Check {
    private int wrong = 0;
    private int made = 0;

    void due(String call, long got, long want) {
        made++;
        if (got != want) {
            wrong++;
            System.out.println(call + " answered " + got + ", due is " + want);
        }
    }

    void due(String what, boolean holds) {
        due(what, holds ? 1 : 0, 1);
    }

    void finish() {
        System.out.println(made + " answers looked at, " + wrong + " wrong");
        if (wrong != 0) {
            System.exit(1);
        }
    }

    static AimDesk write(AimDesk desk, String text) {
        for (int i = 0; i < text.length(); i++) {
            desk.letter(text.charAt(i));
        }
        return desk;
    }

    /** A new object with this field read. */
    static AimDesk desk(String field) {
        AimDesk desk = write(new AimDesk(), field);
        if (desk.field() < 0) {
            System.out.println("not read as a field: " + field);
            System.exit(1);
        }
        return desk;
    }
}
