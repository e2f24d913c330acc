import java.util.Arrays;

/** Aims of a field's mirrors at the patches of a receiver; what each call must do stands in DOC.md. */
public final class AimDesk {
    public static final int NONE = -1001, UNKNOWN = -1002, OUTSIDE = -1003, STATE = -1004, FULL = -1005;

    private static final int AWAY = -1;
    private static final int MOST_MIRRORS = 5;
    private static final int MOST_PATCHES = 4;
    private static final int MOST_LETTERS = 21;
    private static final int FIRST_CEILING = 20;
    private static final int MOST_CEILING = 60;

    /** Aims of one mirror: the patches and AWAY. */
    private static final int AIMS = 5;
    /** Aims of all mirrors: AIMS to the power of MOST_MIRRORS. */
    private static final int PLACES = 3125;
    /** AIMS to the power of each mirror's number. */
    private static final int[] STEPS = {1, 5, 25, 125, 625};
    /** Moves of a change that can be asked for. */
    private static final int MOST_MOVES_TOLD = 15;

    private final Page page;
    private final Plant plant;
    private final Planner planner;
    private int fieldsRead;
    private int aimsGiven;

    public AimDesk() {
        page = new Page();
        plant = new Plant();
        planner = new Planner();
    }

    // ---- texts

    public int letter(int code) {
        if (code < 32 || code > 126) {
            return OUTSIDE;
        }
        if (page.length >= MOST_LETTERS) {
            return FULL;
        }
        page.append(code);
        return page.length;
    }

    public int blank() {
        int had = page.length;
        page.length = 0;
        return had;
    }

    public int fault() {
        return page.firstFault();
    }

    public int field() {
        if (!page.isField()) {
            return STATE;
        }
        plant.read(page);
        page.length = 0;
        planner.forget();
        fieldsRead++;
        return plant.mirrors;
    }

    // ---- what is told

    public int ceiling(int patch, int v) {
        if (!plant.hasPatch(patch)) {
            return UNKNOWN;
        }
        if (v < 0 || v > MOST_CEILING) {
            return OUTSIDE;
        }
        int was = plant.ceilings[patch];
        plant.ceilings[patch] = v;
        plant.measureSlack();
        planner.forget();
        return was;
    }

    public int shade(int mirrors) {
        if (!plant.isRead()) {
            return STATE;
        }
        if (mirrors < 0 || mirrors >= 1 << plant.mirrors) {
            return OUTSIDE;
        }
        int were = plant.shadedOnes;
        plant.shadedOnes = mirrors;
        planner.forget();
        return were;
    }

    public int stuck(int mirror, boolean is) {
        if (!plant.hasMirror(mirror)) {
            return UNKNOWN;
        }
        int was = bit(plant.stuckOnes, mirror);
        int others = plant.stuckOnes & ~(1 << mirror);
        plant.stuckOnes = is ? others | 1 << mirror : others;
        planner.forget();
        return was;
    }

    public int aim(int mirror, int aim) {
        if (!plant.hasMirror(mirror)) {
            return UNKNOWN;
        }
        if (aim != AWAY && !plant.hasPatch(aim)) {
            return OUTSIDE;
        }
        if (plant.isStuck(mirror)) {
            return STATE;
        }
        int had = plant.aims[mirror];
        plant.aims[mirror] = aim;
        if (aim != AWAY && !plant.isSafe(plant.heats())) {
            plant.aims[mirror] = had;
            return STATE;
        }
        planner.forget();
        aimsGiven++;
        return had;
    }

    // ---- mirrors, patches

    public int mirror(int mirror, int what) {
        if (!plant.hasMirror(mirror)) {
            return UNKNOWN;
        }
        switch (what) {
            case 0:
                return plant.middles[mirror];
            case 1:
                return plant.sides[mirror];
            case 2:
                return plant.aims[mirror];
            case 3:
                return bit(plant.shadedOnes, mirror);
            case 4:
                return bit(plant.stuckOnes, mirror);
            case 5:
                return plant.isShaded(mirror) ? 0 : sum(plant.light(mirror, plant.aims[mirror]));
            default:
                return OUTSIDE;
        }
    }

    public int patch(int patch, int what) {
        if (!plant.hasPatch(patch)) {
            return UNKNOWN;
        }
        switch (what) {
            case 0:
                return heatOf(plant.heats(), patch);
            case 1:
                return plant.ceilings[patch];
            case 2:
                return heatOf(plant.heatsWithout(0), patch);
            case 3:
                return plant.aimingAt(patch);
            default:
                return OUTSIDE;
        }
    }

    // ---- plans

    public int best(boolean steady, int what) {
        if (!plant.isRead()) {
            return STATE;
        }
        if (what != 0 && what != 1 && (what < 10 || what > 14)) {
            return OUTSIDE;
        }
        Plan plan = planner.planWithBest(plant, steady);
        if (plan.caught == NONE || what == 0) {
            return plan.caught;
        }
        if (what == 1) {
            return plant.bound() - plan.caught;
        }
        return plant.hasMirror(what - 10) ? aimIn(plan.place, what - 10) : NONE;
    }

    public int change(boolean steady, int what) {
        if (!plant.isRead()) {
            return STATE;
        }
        if (what != 0 && (what < 10 || what > 24)) {
            return OUTSIDE;
        }
        Plan plan = planner.planWithChange(plant, steady);
        return what == 0 ? plan.moves : plan.moveAt(what - 10);
    }

    public int go(boolean steady) {
        if (!plant.isRead()) {
            return STATE;
        }
        Plan plan = planner.planWithChange(plant, steady);
        int move = plan.moveAt(0);
        if (move == NONE || !plant.hasMirror(move >> 3)) {
            return STATE;
        }
        plant.aims[move >> 3] = (move & 7) - 1;
        planner.forget();
        aimsGiven++;
        return plan.moves - 1;
    }

    public int trade(int what) {
        if (!plant.isRead()) {
            return STATE;
        }
        if (what < 0 || what > 2) {
            return OUTSIDE;
        }
        int pair = plant.bestTrade();
        if (pair == NONE) {
            return NONE;
        }
        int first = pair >> 3;
        int second = pair & 7;
        if (what == 0) {
            return sum(plant.heatsByTrade(first, second)) - sum(plant.heats());
        }
        return what == 1 ? first : second;
    }

    public int relief() {
        return plant.isRead() ? plant.bestRelief() : STATE;
    }

    // ---- what is told of all

    public int count(int what) {
        switch (what) {
            case 0:
                return plant.mirrors;
            case 1:
                return plant.patches;
            case 2:
                return page.length;
            case 3:
                return sum(plant.heats());
            case 4:
                return plant.isSafe(plant.heats()) ? 1 : 0;
            case 5:
                return plant.isSafe(plant.heatsWithout(0)) ? 1 : 0;
            case 6:
                return plant.shadedOnes;
            case 7:
                return plant.stuckOnes;
            case 8:
                return fieldsRead;
            case 9:
                return aimsGiven;
            default:
                return OUTSIDE;
        }
    }

    public long digest() {
        long h = digestOfParts(1733);
        if (plant.isRead()) {
            for (int kind = 0; kind <= 1; kind++) {
                boolean steady = kind == 1;
                h = 31 * h + best(steady, 0);
                h = 31 * h + best(steady, 1);
                for (int what = 10; what <= 14; what++) {
                    h = 31 * h + best(steady, what);
                }
                h = 31 * h + change(steady, 0);
                for (int what = 10; what <= 12; what++) {
                    h = 31 * h + change(steady, what);
                }
            }
            for (int what = 0; what <= 2; what++) {
                h = 31 * h + trade(what);
            }
            h = 31 * h + relief();
        }
        for (int place = 0; place < page.length; place++) {
            h = 31 * h + page.codeAt(place);
        }
        for (int what = 0; what <= 9; what++) {
            h = 31 * h + count(what);
        }
        return h;
    }

    private long digestOfParts(long start) {
        long h = start;
        for (int mirror = 0; mirror < plant.mirrors; mirror++) {
            for (int what = 0; what <= 5; what++) {
                h = 31 * h + mirror(mirror, what);
            }
        }
        for (int patch = 0; patch < plant.patches; patch++) {
            for (int what = 0; what <= 3; what++) {
                h = 31 * h + patch(patch, what);
            }
        }
        return h;
    }

    private static int bit(int bits, int number) {
        return bits >> number & 1;
    }

    // Heat of all patches is one number, eight bits a patch: five mirrors give
    // a patch 45 at most, so that adding two such numbers adds patch by patch.

    private static int heatOf(int heats, int patch) {
        return heats >>> 8 * patch & 255;
    }

    private static int sum(int heats) {
        return heatOf(heats, 0) + heatOf(heats, 1) + heatOf(heats, 2) + heatOf(heats, 3);
    }

    // The aims of all mirrors are one number too, a place: to the base AIMS,
    // each figure an aim and 1, mirror 0 the last figure.

    private static int aimIn(int place, int mirror) {
        int rest = place;
        for (int ahead = 0; ahead < mirror && ahead < MOST_MIRRORS; ahead++) {
            rest /= AIMS;
        }
        return rest % AIMS - 1;
    }

    /** THE PAGE. */
    private static final class Page {
        private final int[] codes = new int[MOST_LETTERS];
        private int length;

        private void append(int code) {
            if (length < codes.length) {
                codes[length] = code;
                length++;
            }
        }

        private int codeAt(int place) {
            return place >= 0 && place < length ? codes[place] : NONE;
        }

        private int figureAt(int place) {
            return codeAt(place) - '0';
        }

        private int firstFault() {
            int place = 0;
            while (place < length && fits(place)) {
                place++;
            }
            return place;
        }

        private boolean fits(int place) {
            int code = codeAt(place);
            if (place == 0) {
                return code >= '1' && code <= '4';
            }
            switch (place % 4) {
                case 1:
                    return code == ';';
                case 2:
                    return code >= '1' && code <= '9';
                case 3:
                    return code == ',';
                default:
                    return code >= '0' && code <= '9';
            }
        }

        private boolean isField() {
            return length > 1 && length % 4 == 1 && firstFault() == length;
        }
    }

    /** The field that was read and what was told of it; without one it has no mirrors and no patches. */
    private static final class Plant {
        /** Of each patch the highest of its eight bits. */
        private static final int HIGH_BITS = 0x80808080;
        private static final int BELOW_HIGH_BIT = 127;

        private int mirrors;
        private int patches;
        private int places;
        private int shadedOnes;
        private int stuckOnes;
        private int slack;
        private final int[] middles = new int[MOST_MIRRORS];
        private final int[] sides = new int[MOST_MIRRORS];
        private final int[] aims = new int[MOST_MIRRORS];
        private final int[] lights = new int[MOST_MIRRORS * MOST_PATCHES];
        private final int[] ceilings = new int[MOST_PATCHES];

        private boolean isRead() {
            return mirrors > 0;
        }

        private boolean hasMirror(int mirror) {
            return mirror >= 0 && mirror < mirrors;
        }

        private boolean hasPatch(int patch) {
            return patch >= 0 && patch < patches;
        }

        private boolean isShaded(int mirror) {
            return bit(shadedOnes, mirror) == 1;
        }

        private boolean isStuck(int mirror) {
            return bit(stuckOnes, mirror) == 1;
        }

        /** Takes a page that is a field. */
        private void read(Page page) {
            // Every loop over mirrors or patches rests on this: never more than the rows hold.
            patches = Math.min(page.figureAt(0), MOST_PATCHES);
            mirrors = Math.min(page.length / 4, MOST_MIRRORS);
            places = 1;
            shadedOnes = 0;
            stuckOnes = 0;
            for (int mirror = 0; mirror < mirrors; mirror++) {
                places *= AIMS;
                middles[mirror] = page.figureAt(4 * mirror + 2);
                sides[mirror] = page.figureAt(4 * mirror + 4);
                aims[mirror] = AWAY;
                for (int patch = 0; patch < patches; patch++) {
                    lights[mirror * MOST_PATCHES + patch] = lightAt(patch, middles[mirror], sides[mirror]);
                }
            }
            Arrays.fill(ceilings, FIRST_CEILING);
            measureSlack();
        }

        private int lightAt(int patch, int middle, int side) {
            int light = middle << 8 * patch;
            if (hasPatch(patch - 1)) {
                light += side << 8 * (patch - 1);
            }
            if (hasPatch(patch + 1)) {
                light += side << 8 * (patch + 1);
            }
            return light;
        }

        /** What a mirror that is not shaded gives by an aim, to each patch: nothing, if the aim is no patch. */
        private int light(int mirror, int aim) {
            return hasMirror(mirror) && hasPatch(aim) ? lights[mirror * MOST_PATCHES + aim] : 0;
        }

        /** Made anew with each ceiling, so that one addition compares all patches with theirs. */
        private void measureSlack() {
            slack = 0;
            for (int patch = 0; patch < patches; patch++) {
                slack += BELOW_HIGH_BIT - ceilings[patch] << 8 * patch;
            }
        }

        /** A patch's high bit comes up just if its heat is more than its ceiling. */
        private boolean isSafe(int heats) {
            return (heats + slack & HIGH_BITS) == 0;
        }

        private int heats() {
            return heatsWithout(shadedOnes);
        }

        private int heatsWithout(int darkOnes) {
            int heats = 0;
            for (int mirror = 0; mirror < mirrors; mirror++) {
                if (bit(darkOnes, mirror) == 0) {
                    heats += light(mirror, aims[mirror]);
                }
            }
            return heats;
        }

        private int aimingAt(int patch) {
            int aiming = 0;
            for (int mirror = 0; mirror < mirrors; mirror++) {
                if (aims[mirror] == patch) {
                    aiming++;
                }
            }
            return aiming;
        }

        private int bound() {
            int given = 0;
            for (int mirror = 0; mirror < mirrors; mirror++) {
                if (!isShaded(mirror)) {
                    given += isStuck(mirror) ? sum(light(mirror, aims[mirror])) : mostLight(mirror);
                }
            }
            int borne = 0;
            for (int patch = 0; patch < patches; patch++) {
                borne += ceilings[patch];
            }
            return Math.min(given, borne);
        }

        private int mostLight(int mirror) {
            int most = 0;
            for (int aim = 0; aim < patches; aim++) {
                most = Math.max(most, sum(light(mirror, aim)));
            }
            return most;
        }

        private int placeNow() {
            int place = 0;
            for (int mirror = 0; mirror < mirrors; mirror++) {
                place += (aims[mirror] + 1) * STEPS[mirror];
            }
            return place;
        }

        /** 8 times the first mirror and the second one, or NONE. */
        private int bestTrade() {
            int pair = NONE;
            int most = sum(heats());
            for (int first = 0; first < mirrors; first++) {
                for (int second = first + 1; second < mirrors; second++) {
                    if (isStuck(first) || isStuck(second) || aims[first] == aims[second]) {
                        continue;
                    }
                    int heats = heatsByTrade(first, second);
                    if (isSafe(heats) && sum(heats) > most) {
                        most = sum(heats);
                        pair = 8 * first + second;
                    }
                }
            }
            return pair;
        }

        private int heatsByTrade(int first, int second) {
            swapAims(first, second);
            int heats = heatsWithout(shadedOnes);
            swapAims(first, second);
            return heats;
        }

        private void swapAims(int first, int second) {
            if (hasMirror(first) && hasMirror(second)) {
                int kept = aims[first];
                aims[first] = aims[second];
                aims[second] = kept;
            }
        }

        private int bestRelief() {
            int relief = NONE;
            int fewest = MOST_MIRRORS + 1;
            int most = 0;
            for (int ones = 0; ones < 1 << mirrors; ones++) {
                int heats = heatsWithout(shadedOnes | ones);
                if ((ones & stuckOnes) != 0 || !isSafe(heats)) {
                    continue;
                }
                int size = Integer.bitCount(ones);
                if (size < fewest || size == fewest && sum(heats) > most) {
                    relief = ones;
                    fewest = size;
                    most = sum(heats);
                }
            }
            return relief;
        }
    }

    /** BEST and CHANGE, steady or not, as far as they are known. */
    private static final class Plan {
        private final boolean steady;
        private final int[] firstMoves = new int[MOST_MOVES_TOLD];
        private boolean bestKnown;
        private boolean changeKnown;
        /** NONE: there is no BEST. */
        private int caught;
        private int place;
        /** NONE: there is no CHANGE. */
        private int moves;

        private Plan(boolean steady) {
            this.steady = steady;
        }

        private int moveAt(int number) {
            return number >= 0 && number < moves && number < firstMoves.length ? firstMoves[number] : NONE;
        }
    }

    /** Finds plans, and keeps them until something else is told: a digest asks for the same ones again and again. */
    private static final class Planner {
        private static final int CLOSED = -2;
        private static final int OPEN = -1;

        private final Plan loosePlan = new Plan(false);
        private final Plan steadyPlan = new Plan(true);
        /** Of each place how many moves it is from BEST; OPEN, if that is not found; CLOSED, if no move may lead there. */
        private final int[] ways = new int[PLACES];

        private void forget() {
            loosePlan.bestKnown = false;
            loosePlan.changeKnown = false;
            steadyPlan.bestKnown = false;
            steadyPlan.changeKnown = false;
        }

        private Plan planWithBest(Plant plant, boolean steady) {
            Plan plan = steady ? steadyPlan : loosePlan;
            if (!plan.bestKnown) {
                findBest(plant, plan);
                plan.bestKnown = true;
            }
            return plan;
        }

        private Plan planWithChange(Plant plant, boolean steady) {
            Plan plan = steady ? steadyPlan : loosePlan;
            if (!plan.changeKnown) {
                // The other plan may have used the ways since this one's BEST was found.
                findBest(plant, plan);
                findChange(plant, plan);
                plan.bestKnown = true;
                plan.changeKnown = true;
            }
            return plan;
        }

        private void findBest(Plant plant, Plan plan) {
            Arrays.fill(ways, CLOSED);
            plan.caught = NONE;
            plan.place = 0;
            openFrom(plant, plan, ways, 0, 0, 0, 0);
        }

        /** Opens the allowed places in which the mirrors ahead of this one aim as place tells, least aims first. */
        private static void openFrom(Plant plant, Plan plan, int[] ways, int mirror, int place, int heats, int caught) {
            // More mirrors never cool a patch, so that nothing beyond a place too hot is allowed.
            if (!plant.isSafe(heats)) {
                return;
            }
            if (!plant.hasMirror(mirror)) {
                open(plan, ways, place, caught);
                return;
            }
            boolean shaded = plant.isShaded(mirror);
            for (int aim = AWAY; aim < plant.patches; aim++) {
                if (plant.isStuck(mirror) && aim != plant.aims[mirror]) {
                    continue;
                }
                int light = plant.light(mirror, aim);
                int heatsThen = shaded && !plan.steady ? heats : heats + light;
                int caughtThen = shaded ? caught : caught + sum(light);
                openFrom(plant, plan, ways, mirror + 1, place + (aim + 1) * STEPS[mirror], heatsThen, caughtThen);
            }
        }

        private static void open(Plan plan, int[] ways, int place, int caught) {
            if (place < 0 || place >= ways.length) {
                return;
            }
            ways[place] = OPEN;
            if (caught > plan.caught) {
                plan.caught = caught;
                plan.place = place;
            }
        }

        private int wayFrom(int place) {
            return place >= 0 && place < ways.length ? ways[place] : CLOSED;
        }

        private void setWay(int place, int way) {
            if (place >= 0 && place < ways.length) {
                ways[place] = way;
            }
        }

        /** Goes back from BEST, in ever wider rings, until the aims as they are have been met. */
        private void findChange(Plant plant, Plan plan) {
            plan.moves = NONE;
            if (plan.caught == NONE) {
                return;
            }
            int start = plant.placeNow();
            // Only what is behind a move must be allowed, not what the first one leaves.
            setWay(start, OPEN);
            setWay(plan.place, 0);
            boolean wider = true;
            for (int far = 0; far < plant.places && wider && wayFrom(start) == OPEN; far++) {
                wider = widen(plant, far);
            }
            if (wayFrom(start) >= 0) {
                plan.moves = wayFrom(start);
                noteMoves(plant, plan, start);
            }
        }

        private boolean widen(Plant plant, int far) {
            boolean wider = false;
            for (int place = 0; place < plant.places; place++) {
                if (wayFrom(place) == far && markBeside(plant, place, far + 1)) {
                    wider = true;
                }
            }
            return wider;
        }

        /** Needs not look for stuck mirrors: a place with another aim of theirs was never opened. */
        private boolean markBeside(Plant plant, int place, int far) {
            boolean marked = false;
            int rest = place;
            for (int mirror = 0; mirror < plant.mirrors; mirror++) {
                int beside = place - rest % AIMS * STEPS[mirror];
                for (int aim = AWAY; aim < plant.patches; aim++) {
                    if (wayFrom(beside) == OPEN) {
                        setWay(beside, far);
                        marked = true;
                    }
                    beside += STEPS[mirror];
                }
                rest /= AIMS;
            }
            return marked;
        }

        private void noteMoves(Plant plant, Plan plan, int start) {
            int place = start;
            int told = Math.min(plan.moves, plan.firstMoves.length);
            for (int number = 0; number < told; number++) {
                int move = leastMove(plant, place, plan.moves - number - 1);
                int mirror = move >> 3;
                plan.firstMoves[number] = move;
                if (plant.hasMirror(mirror)) {
                    place += ((move & 7) - 1 - aimIn(place, mirror)) * STEPS[mirror];
                }
            }
        }

        /** The least move from a place to one that is so far from BEST: 8 times the mirror, the aim and 1. */
        private int leastMove(Plant plant, int place, int far) {
            int rest = place;
            for (int mirror = 0; mirror < plant.mirrors; mirror++) {
                int beside = place - rest % AIMS * STEPS[mirror];
                for (int aim = AWAY; aim < plant.patches; aim++) {
                    if (wayFrom(beside) == far) {
                        return 8 * mirror + aim + 1;
                    }
                    beside += STEPS[mirror];
                }
                rest /= AIMS;
            }
            return NONE;
        }
    }
}
