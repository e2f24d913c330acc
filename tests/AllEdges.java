import java.math.BigInteger;
import java.util.ArrayList;
import java.util.List;

/** Promises 17 and 18: count, digest. */
final class AllEdges extends EdgeCases {
    // ---- promise 17

    @Edge(of = "Promise 17", words = "How many: 0 MIRRORS")
    static void noMirrorsToFive() {
        AimDesk x = new AimDesk();
        due("no field", x.count(0), 0);
        String text = "1";
        for (int mirrors = 1; mirrors <= 5; mirrors++) {
            text += ";1,0";
            Check.write(x, text).field();
            due(text, x.count(0), mirrors);
        }
        Check.write(x, "1;1,0").field();
        due("one again", x.count(0), 1);
    }

    @Edge(of = "Promise 17", words = "1 PATCHES")
    static void noPatchesToFour() {
        AimDesk x = new AimDesk();
        due("no field", x.count(1), 0);
        for (int patches = 1; patches <= 4; patches++) {
            Check.write(x, patches + ";1,0").field();
            due(patches + ";1,0", x.count(1), patches);
        }
    }

    @Edge(of = "Promise 17", words = "2 letters of THE PAGE")
    static void emptyAndFullPage() {
        AimDesk x = new AimDesk();
        due("empty", x.count(2), 0);
        Check.write(x, LARGEST);
        due("full", x.count(2), 21);
        x.letter('1');
        due("full, and one refused", x.count(2), 21);
        x.field();
        due("read", x.count(2), 0);
    }

    @Edge(of = "Promise 17", words = "3 CAUGHT")
    static void nothingCaughtAndTheMost() {
        AimDesk x = new AimDesk();
        due("no field", x.count(3), 0);
        Check.write(x, LARGEST).field();
        due("all away", x.count(3), 0);
        ceilings(x, 60, 60, 60, 60);
        aims(x, 1, 1, 1, 1, 1);
        due("the most", x.count(3), 135);
        x.shade(15);
        due("all but one shaded", x.count(3), 27);
        ceilings(x, 0, 0, 0, 0);
        due("also what is too hot", x.count(3), 27);
    }

    @Edge(of = "Promise 17", words = "4 whether all is SAFE (1, 0)")
    static void safeWithoutAFieldAndAtTheCeiling() {
        AimDesk x = new AimDesk();
        due("no field: no patch is too hot", x.count(4), 1);
        Check.write(x, "1;5,0").field();
        x.aim(0, 0);
        x.ceiling(0, 5);
        due("at the ceiling", x.count(4), 1);
        x.ceiling(0, 4);
        due("above it", x.count(4), 0);
        x.shade(1);
        due("above it, shaded", x.count(4), 1);
    }

    @Edge(of = "Promise 17", words = "5 STEADY")
    static void steadyWithoutAFieldAndAtTheCeiling() {
        AimDesk x = new AimDesk();
        due("no field: no patch would be too hot", x.count(5), 1);
        Check.write(x, "1;5,0").field();
        x.aim(0, 0);
        x.shade(1);
        x.ceiling(0, 5);
        due("at the ceiling", x.count(5), 1);
        x.ceiling(0, 4);
        due("above it", x.count(5), 0);
    }

    @Edge(of = "Promise 17", words = "6 MIRRORS that are SHADED, as bits")
    static void noBitsAndAllBitsOfShaded() {
        AimDesk x = new AimDesk();
        due("no field", x.count(6), 0);
        Check.write(x, LARGEST).field();
        due("none", x.count(6), 0);
        x.shade(31);
        due("all", x.count(6), 31);
        x.shade(16);
        due("the last", x.count(6), 16);
        x.shade(1);
        due("the first", x.count(6), 1);
    }

    @Edge(of = "Promise 17", words = "7 that are STUCK, as bits")
    static void noBitsAndAllBitsOfStuck() {
        AimDesk x = new AimDesk();
        due("no field", x.count(7), 0);
        Check.write(x, LARGEST).field();
        due("none", x.count(7), 0);
        for (int mirror = 0; mirror < 5; mirror++) {
            x.stuck(mirror, true);
            due("up to " + mirror, x.count(7), (2 << mirror) - 1);
        }
        for (int mirror = 0; mirror < 4; mirror++) {
            x.stuck(mirror, false);
        }
        due("the last", x.count(7), 16);
    }

    @Edge(of = "Promise 17", words = "8 how often a FIELD was read")
    static void neverReadAndRefused() {
        AimDesk x = new AimDesk();
        due("never", x.count(8), 0);
        x.field();
        due("refused", x.count(8), 0);
        for (int times = 1; times <= 70; times++) {
            Check.write(x, "1;1,0").field();
            due("read", x.count(8), times);
        }
        Check.write(x, "1;1").field();
        due("refused then", x.count(8), 70);
    }

    @Edge(of = "Promise 17", words = "9 how often an AIM was given by aim() or go(), ever.")
    static void byAimAlsoThatWhichItHas() {
        AimDesk x = desk("1;5,0");
        due("never", x.count(9), 0);
        x.aim(0, -1);
        due("away as it was", x.count(9), 1);
        x.aim(0, 0);
        x.aim(0, 0);
        due("twice the same", x.count(9), 3);
    }

    @Edge(of = "Promise 17", words = "9 how often an AIM was given by aim() or go(), ever.")
    static void byGo() {
        AimDesk x = desk("1;5,0;5,0");
        x.go(false);
        due("by go(false)", x.count(9), 1);
        x.go(true);
        due("by go(true)", x.count(9), 2);
        x.go(true);
        due("refused", x.count(9), 2);
    }

    @Edge(of = "Promise 17", words = "9 how often an AIM was given by aim() or go(), ever.")
    static void notByRefusedOnes() {
        AimDesk x = desk("1;5,0");
        x.aim(1, 0);
        x.aim(0, 1);
        x.ceiling(0, 4);
        x.aim(0, 0);
        x.stuck(0, true);
        x.aim(0, -1);
        x.go(false);
        due("all refused", x.count(9), 0);
    }

    @Edge(of = "Promise 17", words = "9 how often an AIM was given by aim() or go(), ever.")
    static void everIsBeyondOneField() {
        AimDesk x = desk("1;5,0");
        x.aim(0, 0);
        Check.write(x, "1;5,0").field();
        due("behind another field", x.count(9), 1);
        x.go(false);
        due("and on", x.count(9), 2);
    }

    @Edge(of = "Promise 17", words = "OUTSIDE.")
    static void whatIsOutside() {
        AimDesk none = new AimDesk();
        AimDesk some = desk(LARGEST);
        for (int what : new int[] {-1, 10, 11, 256, LEAST, MOST}) {
            refused(none, "no field, count(" + what + ")", OUTSIDE, () -> none.count(what));
            refused(some, "count(" + what + ")", OUTSIDE, () -> some.count(what));
        }
    }

    // ---- promise 18

    private static List<Integer> numbersOfParts(AimDesk x) {
        List<Integer> numbers = new ArrayList<>();
        for (int mirror = 0; mirror < x.count(0); mirror++) {
            for (int what = 0; what <= 5; what++) {
                numbers.add(x.mirror(mirror, what));
            }
        }
        for (int patch = 0; patch < x.count(1); patch++) {
            for (int what = 0; what <= 3; what++) {
                numbers.add(x.patch(patch, what));
            }
        }
        return numbers;
    }

    private static List<Integer> numbersOfPlans(AimDesk x) {
        List<Integer> numbers = new ArrayList<>();
        for (boolean steady : new boolean[] {false, true}) {
            for (int what : new int[] {0, 1, 10, 11, 12, 13, 14}) {
                numbers.add(x.best(steady, what));
            }
            for (int what : new int[] {0, 10, 11, 12}) {
                numbers.add(x.change(steady, what));
            }
        }
        numbers.addAll(List.of(x.trade(0), x.trade(1), x.trade(2), x.relief()));
        return numbers;
    }

    /** All that digest() goes through. */
    private static List<Integer> numbers(AimDesk x, String page) {
        List<Integer> numbers = numbersOfParts(x);
        if (x.count(0) > 0) {
            numbers.addAll(numbersOfPlans(x));
        }
        page.chars().forEach(numbers::add);
        for (int what = 0; what <= 9; what++) {
            numbers.add(x.count(what));
        }
        return numbers;
    }

    /** Without any wrapping. */
    private static BigInteger unbounded(List<Integer> numbers) {
        BigInteger h = BigInteger.valueOf(1733);
        for (int number : numbers) {
            h = h.multiply(BigInteger.valueOf(31)).add(BigInteger.valueOf(number));
        }
        return h;
    }

    private static void dueDigest(String when, AimDesk x, String page) {
        due(when + ", digest()", x.digest(), unbounded(numbers(x, page)).longValue());
    }

    @Edge(of = "Promise 18",
        words = "h is 1733, then for each of these numbers, in order, 31 times h, and it (as longs, wrapping)")
    static void beyondTheLargestLong() {
        AimDesk x = new AimDesk();
        BigInteger none = unbounded(List.of(0, 0, 0, 0, 1, 1, 0, 0, 0, 0));
        due("no field, by hand", x.digest(), none.longValue());
        Check.write(x, "4;9,9;8,1;7,2;6,3;5,4").field();
        BigInteger h = unbounded(numbers(x, ""));
        due("more than a long holds", h.bitLength() > 64 ? 1 : 0, 1);
        due("wrapped", x.digest(), h.longValue());
    }

    @Edge(of = "Promise 18",
        words = "h is 1733, then for each of these numbers, in order, 31 times h, and it (as longs, wrapping)")
    static void numbersBelowNoughtAreAddedAsLongs() {
        AimDesk x = desk("1;5,0");
        x.aim(0, 0);
        x.stuck(0, true);
        x.ceiling(0, 4);
        due("NONE is among them", numbers(x, "").contains(NONE) ? 1 : 0, 1);
        dueDigest("no BEST, no CHANGE, no TRADE, no RELIEF", x, "");
    }

    @Edge(of = "Promise 18", words = "of each MIRROR mirror() for 0 to 5; of each PATCH patch() for 0 to 3")
    static void oneMirrorAndPatchToTheMost() {
        dueDigest("one of each", desk("1;5,2"), "");
        AimDesk x = desk(LARGEST);
        x.aim(4, 3);
        x.shade(16);
        x.stuck(0, true);
        dueDigest("the most", x, "");
    }

    @Edge(of = "Promise 18", words = "if there is a FIELD: not steady, then steady, best() for 0, 1, 10 to 14, "
        + "change() for 0, 10 to 12")
    static void notSteadyAheadOfSteady() {
        AimDesk x = desk("3;9,3;8,2");
        x.aim(0, 0);
        x.stuck(0, true);
        x.shade(1);
        x.ceiling(0, 9);
        due("they are unlike", x.best(false, 0) - x.best(true, 0), 2);
        dueDigest("not steady, then steady", x, "");
    }

    @Edge(of = "Promise 18", words = "if there is a FIELD: not steady, then steady, best() for 0, 1, 10 to 14, "
        + "change() for 0, 10 to 12")
    static void threeMovesOfALongerChange() {
        AimDesk x = desk("4;7,0;6,1;3,0;5,1;2,0");
        aims(x, 3, 2, 3, 2, 0);
        ceilings(x, 1, 3, 11, 12);
        due("change(false, 0)", x.change(false, 0), 8);
        dueDigest("eight moves, three of them told", x, "");
    }

    @Edge(of = "Promise 18", words = "and behind these trade() for 0 to 2, relief()")
    static void aTradeAndARelief() {
        AimDesk x = desk("3;9,3;1,1");
        aims(x, 0, 1);
        ceilings(x, 4, 10, 3);
        due("trade(0)", x.trade(0), 2);
        due("relief()", x.relief(), 1);
        dueDigest("once each, behind both kinds", x, "");
    }

    @Edge(of = "Promise 18", words = "(without a FIELD none of these)")
    static void noneOfTheseWithoutAField() {
        AimDesk x = new AimDesk();
        dueDigest("a new object", x, "");
        x.letter('1');
        dueDigest("a page, but no field", x, "1");
    }

    @Edge(of = "Promise 18", words = "each letter of THE PAGE by its code")
    static void noLetterToAFullPage() {
        AimDesk x = desk("1;5,2");
        dueDigest("an empty page", x, "");
        Check.write(x, " ~ 1;x,y/ABCDEFGHIJKL");
        due("count(2)", x.count(2), 21);
        dueDigest("a full page", x, " ~ 1;x,y/ABCDEFGHIJKL");
        x.blank();
        dueDigest("empty again", x, "");
    }

    @Edge(of = "Promise 18", words = "what count() tells for 0 to 9.")
    static void theLastCountToo() {
        AimDesk x = desk("1;5,2");
        long ahead = x.digest();
        x.aim(0, -1);
        due("one aim more, nothing else", x.digest() - ahead, 1);
        dueDigest("that", x, "");
    }

    @Edge(of = "Promise 18", words = "what count() tells for 0 to 9.")
    static void digestItselfChangesNothing() {
        AimDesk x = desk("2;5,2;4,1");
        x.aim(0, 1);
        due("digest() twice", x.digest() - x.digest(), 0);
        due("count(9)", x.count(9), 1);
        due("mirror(0, 2)", x.mirror(0, 2), 1);
    }
}
