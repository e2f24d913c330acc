/** The sentence on fields as texts, and promises 1 to 5. */
final class TextEdges extends EdgeCases {
    private static void isField(String text, int mirrors) {
        AimDesk x = page(text);
        due("fault() of '" + text + "'", x.fault(), text.length());
        due("field() of '" + text + "'", x.field(), mirrors);
    }

    private static void isNone(String text, int fault) {
        AimDesk x = page(text);
        due("fault() of '" + text + "'", x.fault(), fault);
        due("field() of '" + text + "'", x.field(), STATE);
    }

    // ---- a FIELD

    @Edge(of = "What it is", words = "A FIELD is a text: a digit 1 to 4, how many PATCHES")
    static void noPatchesAreTooFew() {
        isNone("0;1,1", 0);
    }

    @Edge(of = "What it is", words = "A FIELD is a text: a digit 1 to 4, how many PATCHES")
    static void onePatchIsTheFewest() {
        isField("1;1,1", 1);
        due("count(1)", desk("1;1,1").count(1), 1);
    }

    @Edge(of = "What it is", words = "A FIELD is a text: a digit 1 to 4, how many PATCHES")
    static void fourPatchesAreTheMost() {
        isField("4;1,1", 1);
        due("count(1)", desk("4;1,1").count(1), 4);
    }

    @Edge(of = "What it is", words = "A FIELD is a text: a digit 1 to 4, how many PATCHES")
    static void fivePatchesAreTooMany() {
        isNone("5;1,1", 0);
    }

    @Edge(of = "What it is", words = "A FIELD is a text: a digit 1 to 4, how many PATCHES")
    static void oneDigitOfPatchesOnly() {
        isNone("11;1,1", 1);
    }

    @Edge(of = "What it is", words = "(in a row, numbered from 0)")
    static void patchesAreNumberedFromNoughtToTheLast() {
        for (int patches = 1; patches <= 4; patches++) {
            AimDesk x = desk(patches + ";1,1");
            due("patch(-1, 1) of " + patches, x.patch(-1, 1), UNKNOWN);
            due("patch(0, 1) of " + patches, x.patch(0, 1), 20);
            due("the last of " + patches, x.patch(patches - 1, 1), 20);
            due("behind the last of " + patches, x.patch(patches, 1), UNKNOWN);
        }
    }

    @Edge(of = "What it is", words = "(in a row, numbered from 0)")
    static void theRowDoesNotCloseToARing() {
        AimDesk x = desk("3;5,2");
        x.aim(0, 0);
        due("heat of the last patch, aim 0", x.patch(2, 0), 0);
        x.aim(0, 2);
        due("heat of patch 0, aim at the last", x.patch(0, 0), 0);
    }

    @Edge(of = "What it is", words = "then of each MIRROR (one to five, numbered from 0)")
    static void noMirrorIsTooFew() {
        isNone("4", 1);
        isNone("4;", 2);
    }

    @Edge(of = "What it is", words = "then of each MIRROR (one to five, numbered from 0)")
    static void oneMirrorIsTheFewest() {
        isField("4;1,1", 1);
    }

    @Edge(of = "What it is", words = "then of each MIRROR (one to five, numbered from 0)")
    static void fiveMirrorsAreTheMost() {
        isField(LARGEST, 5);
    }

    @Edge(of = "What it is", words = "then of each MIRROR (one to five, numbered from 0)")
    static void aSixthMirrorIsTooMany() {
        AimDesk x = page(LARGEST);
        due("letter(';') behind five mirrors", x.letter(';'), FULL);
        due("field()", x.field(), 5);
        due("mirror(5, 0)", x.mirror(5, 0), UNKNOWN);
    }

    @Edge(of = "What it is", words = "then of each MIRROR (one to five, numbered from 0)")
    static void mirrorsAreNumberedFromNoughtToTheLast() {
        String text = "1";
        for (int mirrors = 1; mirrors <= 5; mirrors++) {
            text += ";" + mirrors + ",0";
            AimDesk x = desk(text);
            due("mirror(-1, 0) of " + mirrors, x.mirror(-1, 0), UNKNOWN);
            due("mirror(0, 0) of " + mirrors, x.mirror(0, 0), 1);
            due("the last of " + mirrors, x.mirror(mirrors - 1, 0), mirrors);
            due("behind the last of " + mirrors, x.mirror(mirrors, 0), UNKNOWN);
        }
    }

    @Edge(of = "What it is", words = "\";\"")
    static void signsRightBesideTheSemicolon() {
        isNone("1:1,1", 1);
        isNone("1<1,1", 1);
        isNone("1;1,1:1,1", 5);
        isNone("1;1,1<1,1", 5);
    }

    @Edge(of = "What it is", words = "a figure 1 to 9, its MIDDLE")
    static void middleOfNoughtIsTooSmall() {
        isNone("1;0,1", 2);
        isNone("1;1,1;1,1;1,1;1,1;0,1", 18);
    }

    @Edge(of = "What it is", words = "a figure 1 to 9, its MIDDLE")
    static void middleOfOneAndNine() {
        isField("1;1,1", 1);
        isField("1;9,1", 1);
        due("mirror(0, 0)", desk("1;1,5").mirror(0, 0), 1);
        due("mirror(0, 0)", desk("1;9,5").mirror(0, 0), 9);
    }

    @Edge(of = "What it is", words = "a figure 1 to 9, its MIDDLE")
    static void middleBehindNineOrOfTwoFigures() {
        isNone("1;:,1", 2);
        isNone("1;10,1", 3);
    }

    @Edge(of = "What it is", words = "\",\"")
    static void signsRightBesideTheComma() {
        isNone("1;1+1", 3);
        isNone("1;1-1", 3);
        isNone("1;1,1;1,1;1,1;1,1;1-1", 19);
    }

    @Edge(of = "What it is", words = "a figure 0 to 9, its SIDE")
    static void sideAheadOfNought() {
        isNone("1;1,/", 4);
        isNone("1;1,1;1,1;1,1;1,1;1,/", 20);
    }

    @Edge(of = "What it is", words = "a figure 0 to 9, its SIDE")
    static void sideOfNoughtAndNine() {
        isField("1;1,0", 1);
        isField("1;1,9", 1);
        due("mirror(0, 1)", desk("1;5,0").mirror(0, 1), 0);
        due("mirror(0, 1)", desk("1;5,9").mirror(0, 1), 9);
    }

    @Edge(of = "What it is", words = "a figure 0 to 9, its SIDE")
    static void sideBehindNineOrOfTwoFigures() {
        isNone("1;1,:", 4);
        isNone("1;1,10", 5);
        isNone("1;1,1;1,1;1,1;1,1;1,:", 20);
    }

    @Edge(of = "What it is",
        words = "An object is used for at most 512 calls after it has been made; what later calls answer is free.")
    static void callsUpToThe512thAreAnswered() {
        AimDesk x = new AimDesk();
        for (char sign : "2;1,1".toCharArray()) {
            x.letter(sign);
        }
        x.field();
        for (int call = 7; call <= 511; call++) {
            due("call " + call + ", aim()", x.aim(0, call % 2), call == 7 ? -1 : 1 - call % 2);
        }
        due("call 512, count(9)", x.count(9), 505);
    }

    // ---- promise 1

    @Edge(of = "Promise 1", words = "No FIELD.")
    static void aNewObjectHasNoMirrorsAndNoPatches() {
        AimDesk x = new AimDesk();
        due("count(0)", x.count(0), 0);
        due("count(1)", x.count(1), 0);
        due("mirror(0, 0)", x.mirror(0, 0), UNKNOWN);
        due("patch(0, 0)", x.patch(0, 0), UNKNOWN);
        due("relief()", x.relief(), STATE);
    }

    @Edge(of = "Promise 1", words = "No FIELD.")
    static void aNewObjectKnowsNothingOfAnother() {
        desk("4;9,9").aim(0, 1);
        AimDesk x = new AimDesk();
        due("count(0)", x.count(0), 0);
        due("count(2)", x.count(2), 0);
        due("count(8)", x.count(8), 0);
        due("count(9)", x.count(9), 0);
    }

    // ---- promise 2

    @Edge(of = "Promise 2", words = "A letter comes behind THE PAGE, by its code: how many THE PAGE has.")
    static void theFirstAndTheLastLetter() {
        AimDesk x = new AimDesk();
        for (int letters = 1; letters <= 21; letters++) {
            due("letter " + letters, x.letter('x'), letters);
        }
    }

    @Edge(of = "Promise 2", words = "A letter comes behind THE PAGE, by its code: how many THE PAGE has.")
    static void behindAndNotAhead() {
        due("fault() of '1;'", page("1;").fault(), 2);
        due("fault() of ';1'", page(";1").fault(), 0);
    }

    @Edge(of = "Promise 2", words = "OUTSIDE: code (32 to 126)")
    static void codeTooSmall() {
        AimDesk x = new AimDesk();
        for (int code : new int[] {31, 10, 0, -1, LEAST}) {
            refused(x, "letter(" + code + ")", OUTSIDE, () -> x.letter(code));
        }
    }

    @Edge(of = "Promise 2", words = "OUTSIDE: code (32 to 126)")
    static void leastAndMostCode() {
        AimDesk x = new AimDesk();
        due("letter(32)", x.letter(32), 1);
        due("letter(126)", x.letter(126), 2);
    }

    @Edge(of = "Promise 2", words = "OUTSIDE: code (32 to 126)")
    static void codeTooLarge() {
        AimDesk x = new AimDesk();
        for (int code : new int[] {127, 128, 255, MOST}) {
            refused(x, "letter(" + code + ")", OUTSIDE, () -> x.letter(code));
        }
    }

    @Edge(of = "Promise 2", words = "OUTSIDE: code (32 to 126)")
    static void codesThatWrapAroundToALetter() {
        AimDesk x = new AimDesk();
        for (int code : new int[] {256 + '1', 65536 + '1', LEAST + '1', '1' - 256}) {
            refused(x, "letter(" + code + ")", OUTSIDE, () -> x.letter(code));
        }
    }

    @Edge(of = "Promise 2", words = "FULL: there are 21.")
    static void letter22() {
        AimDesk x = page("12345678901234567890");
        due("letter 21", x.letter('x'), 21);
        refused(x, "letter 22", FULL, () -> x.letter('x'));
        refused(x, "letter 22 again", FULL, () -> x.letter('x'));
        due("count(2)", x.count(2), 21);
    }

    @Edge(of = "Promise 2", words = "FULL: there are 21.")
    static void fullNoMoreBehindBlankAndField() {
        AimDesk x = page(LARGEST);
        x.blank();
        due("letter() behind blank()", x.letter('4'), 1);
        Check.write(x, LARGEST.substring(1));
        due("letter() of a full page", x.letter(';'), FULL);
        x.field();
        due("letter() behind field()", x.letter('4'), 1);
    }

    // ---- promise 3

    @Edge(of = "Promise 3", words = "THE PAGE is empty: how many letters it had.")
    static void blankOfAnEmptyPage() {
        AimDesk x = new AimDesk();
        due("blank()", x.blank(), 0);
        due("count(2)", x.count(2), 0);
    }

    @Edge(of = "Promise 3", words = "THE PAGE is empty: how many letters it had.")
    static void blankOfAFullPage() {
        AimDesk x = page(LARGEST);
        due("blank()", x.blank(), 21);
        due("count(2)", x.count(2), 0);
        due("blank() again", x.blank(), 0);
        due("field() behind it", x.field(), STATE);
    }

    @Edge(of = "Promise 3", words = "THE PAGE is empty: how many letters it had.")
    static void blankLeavesTheFieldAlone() {
        AimDesk x = desk("2;3,1");
        x.aim(0, 1);
        Check.write(x, "1;");
        due("blank()", x.blank(), 2);
        due("mirror(0, 2)", x.mirror(0, 2), 1);
    }

    // ---- promise 4

    private static final String BEGINS_NOT =
        "The place (from 0) of the first letter of THE PAGE with which, and those ahead of it, no FIELD begins";

    @Edge(of = "Promise 4", words = BEGINS_NOT)
    static void faultInTheFirstLetter() {
        for (String text : new String[] {"0", "5", " ", "~", ";", " 1;1,1"}) {
            due("fault() of '" + text + "'", page(text).fault(), 0);
        }
    }

    @Edge(of = "Promise 4", words = BEGINS_NOT)
    static void faultAtEachPlaceUpToTheLast() {
        for (int place = 0; place < 21; place++) {
            String text = LARGEST.substring(0, place) + "x" + LARGEST.substring(place + 1);
            due("fault() of '" + text + "'", page(text).fault(), place);
            due("fault() of '" + text.substring(0, place + 1) + "'", page(text.substring(0, place + 1)).fault(), place);
        }
    }

    @Edge(of = "Promise 4", words = BEGINS_NOT)
    static void theFirstOfSeveralFaults() {
        due("fault() of '1x0x'", page("1x0x").fault(), 1);
        due("fault() of 'xxxx'", page("xxxx").fault(), 0);
    }

    @Edge(of = "Promise 4", words = "how many letters it has, if there is none.")
    static void noFaultInAnEmptyPage() {
        due("fault() of an empty page", new AimDesk().fault(), 0);
    }

    @Edge(of = "Promise 4", words = "how many letters it has, if there is none.")
    static void noFaultInWhatBeginsAField() {
        for (int length = 0; length <= 21; length++) {
            String text = LARGEST.substring(0, length);
            due("fault() of '" + text + "'", page(text).fault(), length);
        }
    }

    // ---- promise 5

    @Edge(of = "Promise 5", words = "THE PAGE is read as a FIELD")
    static void aFieldBehindARefusedOne() {
        AimDesk x = page("1;1");
        due("field() of '1;1'", x.field(), STATE);
        Check.write(x, ",1");
        due("field() of '1;1,1'", x.field(), 1);
    }

    @Edge(of = "Promise 5", words = "(another one is gone, with all that was told of it)")
    static void nothingToldOfAnotherFieldIsLeft() {
        AimDesk x = desk("4;9,1;9,1;9,1;9,1;9,1");
        ceilings(x, 1, 2, 3, 60);
        x.aim(4, 3);
        x.shade(31);
        for (int mirror = 0; mirror < 5; mirror++) {
            x.stuck(mirror, true);
        }
        due("best(false, 0) of the other one", x.best(false, 0), 0);
        due("change(false, 0) of the other one", x.change(false, 0), 0);
        Check.write(x, "4;9,1;9,1;9,1;9,1;9,1");
        due("field()", x.field(), 5);
        for (int patch = 0; patch < 4; patch++) {
            due("ceiling of patch " + patch, x.patch(patch, 1), 20);
            due("heat of patch " + patch, x.patch(patch, 2), 0);
        }
        due("aim of mirror 4", x.mirror(4, 2), -1);
        due("shaded", x.count(6), 0);
        due("stuck", x.count(7), 0);
        due("best(false, 0)", x.best(false, 0), 53);
        due("change(false, 0)", x.change(false, 0), 5);
    }

    @Edge(of = "Promise 5", words = "(another one is gone, with all that was told of it)")
    static void aLargerFieldIsGoneForASmallerOne() {
        AimDesk x = desk(LARGEST);
        Check.write(x, "1;1,0");
        due("field()", x.field(), 1);
        due("mirror(1, 0)", x.mirror(1, 0), UNKNOWN);
        due("patch(1, 0)", x.patch(1, 0), UNKNOWN);
        due("shade(2)", x.shade(2), OUTSIDE);
        due("best(false, 0)", x.best(false, 0), 1);
        due("best(false, 11)", x.best(false, 11), NONE);
    }

    @Edge(of = "Promise 5", words = "how many MIRRORS")
    static void oneToFiveMirrors() {
        String text = "2";
        for (int mirrors = 1; mirrors <= 5; mirrors++) {
            text += ";3,1";
            due("field() of '" + text + "'", page(text).field(), mirrors);
        }
    }

    @Edge(of = "Promise 5", words = "THE PAGE is empty then.")
    static void thePageIsEmptyBehindTheLongestField() {
        AimDesk x = desk(LARGEST);
        due("count(2)", x.count(2), 0);
        due("blank()", x.blank(), 0);
        due("field() again", x.field(), STATE);
    }

    @Edge(of = "Promise 5", words = "STATE: it is none.")
    static void anEmptyPageIsNone() {
        AimDesk x = new AimDesk();
        refused(x, "field()", STATE, x::field);
    }

    @Edge(of = "Promise 5", words = "STATE: it is none.")
    static void whatOnlyBeginsAFieldIsNone() {
        for (int length = 0; length <= 21; length++) {
            boolean whole = length > 1 && length % 4 == 1;
            AimDesk x = page(LARGEST.substring(0, length));
            if (whole) {
                due("field() of " + length + " letters", x.field(), length / 4);
            } else {
                refused(x, "field() of " + length + " letters", STATE, x::field);
                due("count(2)", x.count(2), length);
            }
        }
    }

    @Edge(of = "Promise 5", words = "STATE: it is none.")
    static void aFieldWithSomethingBehindItIsNone() {
        for (String text : new String[] {"1;1,1 ", "1;1,1;", "1;1,1;1,1;1,1;1,1;1,1".substring(0, 20), "1;1,11;1,"}) {
            AimDesk x = page(text);
            refused(x, "field() of '" + text + "'", STATE, x::field);
        }
    }

    @Edge(of = "Promise 5", words = "STATE: it is none.")
    static void refusedItLeavesTheFieldAsItWas() {
        AimDesk x = desk("2;3,1");
        x.aim(0, 1);
        x.ceiling(0, 7);
        Check.write(x, "4;9,9;");
        refused(x, "field()", STATE, x::field);
        due("count(0)", x.count(0), 1);
        due("mirror(0, 2)", x.mirror(0, 2), 1);
        due("patch(0, 1)", x.patch(0, 1), 7);
        due("count(8)", x.count(8), 1);
    }
}
