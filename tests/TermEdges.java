/** The terms: aims, heat, ceilings, what is safe and steady, stuck mirrors. */
final class TermEdges extends EdgeCases {
    private static void dueHeats(String when, AimDesk x, int... due) {
        for (int patch = 0; patch < due.length; patch++) {
            due(when + ", heat of patch " + patch, x.patch(patch, 0), due[patch]);
        }
    }

    // ---- aims and what mirrors give

    @Edge(of = "Terms", words = "Each MIRROR has an AIM: a PATCH, or -1 (AWAY; at first).")
    static void allAreAwayAtFirst() {
        AimDesk x = desk(LARGEST);
        for (int mirror = 0; mirror < 5; mirror++) {
            due("aim of mirror " + mirror, x.mirror(mirror, 2), -1);
        }
    }

    @Edge(of = "Terms", words = "Each MIRROR has an AIM: a PATCH, or -1 (AWAY; at first).")
    static void theLeastAndTheMostAim() {
        AimDesk x = desk(LARGEST);
        for (int mirror = 0; mirror < 5; mirror++) {
            x.shade(31);
            x.aim(mirror, 3);
            due("the last patch, mirror " + mirror, x.mirror(mirror, 2), 3);
            x.aim(mirror, 0);
            due("patch 0, mirror " + mirror, x.mirror(mirror, 2), 0);
            x.aim(mirror, -1);
            due("away, mirror " + mirror, x.mirror(mirror, 2), -1);
        }
    }

    @Edge(of = "Terms", words = "A MIRROR that is not AWAY gives its MIDDLE to the PATCH at which it aims")
    static void awayGivesNothing() {
        AimDesk x = desk("4;9,9");
        dueHeats("away at first", x, 0, 0, 0, 0);
        x.aim(0, 2);
        x.aim(0, -1);
        dueHeats("away again", x, 0, 0, 0, 0);
        due("given", x.mirror(0, 5), 0);
    }

    @Edge(of = "Terms", words = "A MIRROR that is not AWAY gives its MIDDLE to the PATCH at which it aims")
    static void middleOfOneAndNineToEachPatch() {
        for (int patch = 0; patch < 4; patch++) {
            AimDesk least = desk("4;1,0");
            AimDesk most = desk("4;9,0");
            least.aim(0, patch);
            most.aim(0, patch);
            due("heat of patch " + patch, least.patch(patch, 0), 1);
            due("heat of patch " + patch, most.patch(patch, 0), 9);
        }
    }

    @Edge(of = "Terms", words = "its SIDE to each PATCH right beside that one")
    static void oneBesideItAndNoFurther() {
        AimDesk x = desk("4;5,2");
        x.aim(0, 1);
        dueHeats("aim 1", x, 2, 5, 2, 0);
        x.aim(0, 2);
        dueHeats("aim 2", x, 0, 2, 5, 2);
    }

    @Edge(of = "Terms", words = "its SIDE to each PATCH right beside that one")
    static void sideOfNoughtAndNine() {
        AimDesk x = desk("3;1,0;1,9");
        x.aim(0, 1);
        dueHeats("side 0", x, 0, 1, 0);
        x.aim(0, -1);
        x.aim(1, 1);
        dueHeats("side 9", x, 9, 1, 9);
    }

    @Edge(of = "Terms", words = "(what there is no PATCH for is lost)")
    static void lostAtBothEndsOfTheRow() {
        for (int patches = 2; patches <= 4; patches++) {
            AimDesk x = desk(patches + ";5,2");
            x.aim(0, 0);
            due("caught, aim 0 of " + patches, x.count(3), 7);
            due("heat of patch 0", x.patch(0, 0), 5);
            due("heat of patch 1", x.patch(1, 0), 2);
            x.aim(0, patches - 1);
            due("caught, the last of " + patches, x.count(3), 7);
            due("heat of the last patch", x.patch(patches - 1, 0), 5);
            due("heat of the one ahead of it", x.patch(patches - 2, 0), 2);
        }
    }

    @Edge(of = "Terms", words = "(what there is no PATCH for is lost)")
    static void lostOnBothSidesOfAnOnlyPatch() {
        AimDesk x = desk("1;5,9");
        x.aim(0, 0);
        due("heat", x.patch(0, 0), 5);
        due("given", x.mirror(0, 5), 5);
        due("caught", x.count(3), 5);
    }

    @Edge(of = "Terms", words = "nothing, while it is SHADED (none is at first).")
    static void noneIsShadedAtFirst() {
        AimDesk x = desk(LARGEST);
        due("count(6)", x.count(6), 0);
        for (int mirror = 0; mirror < 5; mirror++) {
            due("mirror " + mirror + " is shaded", x.mirror(mirror, 3), 0);
        }
    }

    @Edge(of = "Terms", words = "nothing, while it is SHADED (none is at first).")
    static void nothingWhileAllAreShadedAndAllAgainThen() {
        AimDesk x = desk("3;5,2;4,1");
        aims(x, 1, 0);
        dueHeats("none shaded", x, 6, 6, 2);
        x.shade(3);
        dueHeats("all shaded", x, 0, 0, 0);
        x.shade(1);
        dueHeats("one shaded", x, 4, 1, 0);
        x.shade(0);
        dueHeats("none shaded again", x, 6, 6, 2);
    }

    // ---- heat, ceilings

    @Edge(of = "Terms", words = "HEAT of a PATCH: what all give it.")
    static void noHeatIfNoneGives() {
        dueHeats("all away", desk(LARGEST), 0, 0, 0, 0);
    }

    @Edge(of = "Terms", words = "HEAT of a PATCH: what all give it.")
    static void theMostHeatByFiveMirrors() {
        AimDesk x = desk(LARGEST);
        ceilings(x, 60, 60, 60, 60);
        aims(x, 1, 1, 1, 1, 1);
        dueHeats("five at patch 1", x, 45, 45, 45, 0);
        aims(x, 3, 3, 3, 3, 3);
        dueHeats("five at patch 3", x, 0, 0, 45, 45);
    }

    @Edge(of = "Terms", words = "CEILING of a PATCH: 0 to 60 (20 at first).")
    static void ceilingsAtFirst() {
        for (int patches = 1; patches <= 4; patches++) {
            AimDesk x = desk(patches + ";1,1");
            for (int patch = 0; patch < patches; patch++) {
                due("patch " + patch + " of " + patches, x.patch(patch, 1), 20);
            }
        }
    }

    @Edge(of = "Terms", words = "CEILING of a PATCH: 0 to 60 (20 at first).")
    static void leastAndMostCeiling() {
        AimDesk x = desk("4;1,1");
        for (int patch = 0; patch < 4; patch++) {
            x.ceiling(patch, 0);
            due("0 of patch " + patch, x.patch(patch, 1), 0);
            x.ceiling(patch, 60);
            due("60 of patch " + patch, x.patch(patch, 1), 60);
            x.ceiling(patch, 61);
            due("not 61 of patch " + patch, x.patch(patch, 1), 60);
            x.ceiling(patch, -1);
            due("not -1 of patch " + patch, x.patch(patch, 1), 60);
        }
    }

    @Edge(of = "Terms", words = "It is TOO HOT, if HEAT is more than its CEILING.")
    static void asHotAsTheCeilingIsNotTooHot() {
        for (int patch = 0; patch < 4; patch++) {
            AimDesk x = desk("4;9,0;8,0");
            aims(x, patch, patch);
            x.ceiling(patch, 18);
            due("one below, patch " + patch, x.count(4), 1);
            x.ceiling(patch, 17);
            due("as hot, patch " + patch, x.count(4), 1);
            x.ceiling(patch, 16);
            due("one more, patch " + patch, x.count(4), 0);
        }
    }

    @Edge(of = "Terms", words = "It is TOO HOT, if HEAT is more than its CEILING.")
    static void aCeilingOfNought() {
        AimDesk x = desk("2;1,0");
        ceilings(x, 0, 0);
        due("no heat at all", x.count(4), 1);
        ceilings(x, 1, 1);
        x.aim(0, 1);
        x.ceiling(0, 0);
        due("heat elsewhere", x.count(4), 1);
        x.ceiling(1, 0);
        due("heat of 1", x.count(4), 0);
    }

    @Edge(of = "Terms", words = "It is TOO HOT, if HEAT is more than its CEILING.")
    static void theMostHeatAgainstCeilings() {
        AimDesk x = desk(LARGEST);
        ceilings(x, 60, 60, 60, 60);
        aims(x, 2, 2, 2, 2, 2);
        due("45 below 60", x.count(4), 1);
        ceilings(x, 0, 45, 45, 45);
        due("45 and 45", x.count(4), 1);
        for (int patch = 1; patch < 4; patch++) {
            x.ceiling(patch, 44);
            due("45 above 44, patch " + patch, x.count(4), 0);
            x.ceiling(patch, 45);
        }
    }

    @Edge(of = "Terms", words = "CAUGHT: HEAT of all PATCHES together.")
    static void nothingAndTheMostCaught() {
        AimDesk x = desk(LARGEST);
        due("all away", x.count(3), 0);
        ceilings(x, 60, 60, 60, 60);
        aims(x, 1, 2, 1, 2, 1);
        due("all in the middle", x.count(3), 135);
        x.shade(31);
        due("all shaded", x.count(3), 0);
    }

    // ---- safe, steady, stuck

    @Edge(of = "Terms", words = "AIMS (one of each MIRROR) are SAFE, if by them no PATCH is TOO HOT")
    static void onePatchTooHotIsEnough() {
        AimDesk x = desk("4;5,0;5,0;5,0;5,0");
        aims(x, 0, 1, 2, 3);
        ceilings(x, 5, 5, 5, 5);
        due("each as hot as its ceiling", x.count(4), 1);
        for (int patch = 0; patch < 4; patch++) {
            x.ceiling(patch, 4);
            due("only patch " + patch + " too hot", x.count(4), 0);
            x.ceiling(patch, 5);
        }
    }

    @Edge(of = "Terms", words = "STEADY, if no PATCH would be TOO HOT by them, if no MIRROR were SHADED.")
    static void allShadedAndNotSteady() {
        AimDesk x = desk("2;5,0;5,0");
        aims(x, 0, 0);
        x.shade(3);
        x.ceiling(0, 10);
        due("as hot as the ceiling without clouds", x.count(5), 1);
        x.ceiling(0, 9);
        due("one more than the ceiling without clouds", x.count(5), 0);
        due("but safe", x.count(4), 1);
    }

    @Edge(of = "Terms", words = "STEADY, if no PATCH would be TOO HOT by them, if no MIRROR were SHADED.")
    static void withoutCloudsSteadyIsSafe() {
        AimDesk x = desk("1;5,0");
        x.aim(0, 0);
        x.ceiling(0, 5);
        due("count(5)", x.count(5), 1);
        x.ceiling(0, 4);
        due("count(5)", x.count(5), 0);
        due("count(4)", x.count(4), 0);
    }

    @Edge(of = "Terms", words = "A MIRROR can be STUCK (none is at first): its AIM stays.")
    static void noneIsStuckAtFirst() {
        AimDesk x = desk(LARGEST);
        due("count(7)", x.count(7), 0);
        for (int mirror = 0; mirror < 5; mirror++) {
            due("mirror " + mirror + " is stuck", x.mirror(mirror, 4), 0);
        }
    }

    @Edge(of = "Terms", words = "A MIRROR can be STUCK (none is at first): its AIM stays.")
    static void theAimOfAStuckOneStays() {
        AimDesk x = desk("3;5,2;5,2");
        x.aim(0, 0);
        x.stuck(0, true);
        due("aim(0, 1)", x.aim(0, 1), STATE);
        due("aim(0, -1)", x.aim(0, -1), STATE);
        while (x.go(false) > 0) {
            due("its aim on the way", x.mirror(0, 2), 0);
        }
        due("its aim at the end", x.mirror(0, 2), 0);
        x.stuck(0, false);
        due("not stuck any more", x.aim(0, 1), 0);
    }

    @Edge(of = "Terms", words = "A MIRROR can be STUCK (none is at first): its AIM stays.")
    static void stuckWhileTooHotAndThroughClouds() {
        AimDesk x = desk("1;5,0");
        x.aim(0, 0);
        x.stuck(0, true);
        x.ceiling(0, 0);
        x.shade(1);
        x.shade(0);
        due("its aim", x.mirror(0, 2), 0);
        due("heat", x.patch(0, 0), 5);
    }
}
