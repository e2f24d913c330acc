import java.util.Random;

/** Runs of calls, drawn from fixed seeds, on AimDesk and on the model side by side: all promises together. */
public final class ModelTest {
    private static final Check CHECK = new Check();
    private static final int CALLS = 200;

    private final Random random;
    private final String run;
    private final AimDesk desk = new AimDesk();
    private final Model model = new Model();
    private final int mostPatches;
    private final int mostMirrors;

    private ModelTest(long seed) {
        random = new Random(seed);
        run = "run " + seed + ": ";
        // Half of the runs with the largest fields: most ways of going wrong are there.
        boolean large = random.nextBoolean();
        mostPatches = large ? 4 : 1 + random.nextInt(4);
        mostMirrors = large ? 5 : 1 + random.nextInt(5);
    }

    /** With two numbers: the first seed and how many. */
    public static void main(String[] args) {
        int first = args.length == 2 ? Integer.parseInt(args[0]) : 1;
        int runs = args.length == 2 ? Integer.parseInt(args[1]) : 300;
        for (int seed = first; seed < first + runs; seed++) {
            new ModelTest(seed).run();
        }
        CHECK.finish();
    }

    private void run() {
        if (chance(10)) {
            strayCalls();
        }
        readField();
        for (int i = 0; i < CALLS; i++) {
            call();
        }
        CHECK.due(run + "digest()", desk.digest(), model.digest());
    }

    private boolean chance(int percent) {
        return random.nextInt(100) < percent;
    }

    /** Mostly from least to most, at times right beside them or far away. */
    private int number(int least, int most) {
        if (chance(4)) {
            int[] stray = {least - 1, most + 1, most + 2, Integer.MIN_VALUE, Integer.MAX_VALUE, -1, 32, 1000};
            return stray[random.nextInt(stray.length)];
        }
        return least + random.nextInt(most - least + 1);
    }

    private void letter(int code) {
        CHECK.due(run + "letter(" + code + ")", desk.letter(code), model.letter(code));
    }

    private void write(String text) {
        text.chars().forEach(this::letter);
    }

    private void readField() {
        CHECK.due(run + "blank()", desk.blank(), model.blank());
        StringBuilder text = new StringBuilder().append(mostPatches);
        int mirrors = Math.max(1, mostMirrors - random.nextInt(2));
        int mostMiddle = 1 + random.nextInt(9);
        int mostSide = random.nextInt(10);
        for (int i = 0; i < mirrors; i++) {
            text.append(';').append(1 + random.nextInt(mostMiddle)).append(',').append(random.nextInt(mostSide + 1));
        }
        write(text.toString());
        CHECK.due(run + "field() of " + text, desk.field(), model.field());
    }

    private void strayCalls() {
        for (int i = 0; i < 20; i++) {
            call();
        }
    }

    private void strayText() {
        String signs = "0123456789;,;,. :/";
        int length = random.nextInt(24);
        StringBuilder text = new StringBuilder("3;4,1;9,9;1,0;2,2;5,5;".substring(0, random.nextInt(22)));
        while (text.length() < length) {
            text.append(signs.charAt(random.nextInt(signs.length())));
        }
        write(text.toString());
        CHECK.due(run + "fault() of " + text, desk.fault(), model.fault());
        if (chance(70)) {
            CHECK.due(run + "blank()", desk.blank(), model.blank());
        }
    }

    private void call() {
        int kind = random.nextInt(100);
        if (kind < 2) {
            strayText();
        } else if (kind < 3) {
            readField();
        } else if (kind < 4) {
            CHECK.due(run + "field()", desk.field(), model.field());
            letter(number(32, 126));
        } else if (kind < 50) {
            tell();
        } else if (kind < 70) {
            look();
        } else {
            plan();
        }
    }

    private void tell() {
        int mirror = number(0, mostMirrors - 1);
        int patch = number(0, mostPatches - 1);
        int kind = random.nextInt(10);
        if (kind < 3) {
            int v = number(0, chance(70) ? 25 : 60);
            CHECK.due(run + "ceiling(" + patch + ", " + v + ")", desk.ceiling(patch, v), model.ceiling(patch, v));
        } else if (kind < 4) {
            int bits = number(0, (1 << mostMirrors) - 1);
            CHECK.due(run + "shade(" + bits + ")", desk.shade(bits), model.shade(bits));
        } else if (kind < 5) {
            boolean is = chance(40);
            CHECK.due(run + "stuck(" + mirror + ", " + is + ")", desk.stuck(mirror, is), model.stuck(mirror, is));
        } else {
            int aim = number(-1, mostPatches - 1);
            CHECK.due(run + "aim(" + mirror + ", " + aim + ")", desk.aim(mirror, aim), model.aim(mirror, aim));
        }
    }

    private void look() {
        int mirror = number(0, mostMirrors - 1);
        int patch = number(0, mostPatches - 1);
        int kind = random.nextInt(3);
        if (kind == 0) {
            int what = number(0, 5);
            CHECK.due(run + "mirror(" + mirror + ", " + what + ")", desk.mirror(mirror, what), model.mirror(mirror, what));
        } else if (kind == 1) {
            int what = number(0, 3);
            CHECK.due(run + "patch(" + patch + ", " + what + ")", desk.patch(patch, what), model.patch(patch, what));
        } else {
            int what = number(0, 9);
            CHECK.due(run + "count(" + what + ")", desk.count(what), model.count(what));
        }
    }

    private void plan() {
        boolean steady = chance(50);
        int kind = random.nextInt(20);
        if (kind < 4) {
            int what = chance(30) ? number(0, 1) : number(10, 14);
            CHECK.due(run + "best(" + steady + ", " + what + ")", desk.best(steady, what), model.best(steady, what));
        } else if (kind < 8) {
            int what = chance(30) ? 0 : number(10, 10 + random.nextInt(15));
            CHECK.due(run + "change(" + steady + ", " + what + ")", desk.change(steady, what), model.change(steady, what));
        } else if (kind < 11) {
            CHECK.due(run + "go(" + steady + ")", desk.go(steady), model.go(steady));
        } else if (kind < 15) {
            int what = number(0, 2);
            CHECK.due(run + "trade(" + what + ")", desk.trade(what), model.trade(what));
        } else if (kind < 19) {
            CHECK.due(run + "relief()", desk.relief(), model.relief());
        } else {
            CHECK.due(run + "digest()", desk.digest(), model.digest());
        }
    }
}
