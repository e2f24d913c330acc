import java.util.ArrayDeque;
import java.util.ArrayList;
import java.util.Arrays;
import java.util.HashMap;
import java.util.List;
import java.util.Map;
import java.util.regex.Pattern;

/** The document once more, as plainly as it can be said and without a thought of speed, to compare AimDesk with. */
final class Model {
    private static final Pattern FIELD = Pattern.compile("[1-4](;[1-9],[0-9]){1,5}");

    private String page = "";
    private int patches = 0;
    private int[] middles = {};
    private int[] sides = {};
    private int[] aims = {};
    private boolean[] shaded = {};
    private boolean[] stuck = {};
    private int[] ceilings = {};
    private int fieldsRead = 0;
    private int aimsGiven = 0;

    private int mirrors() {
        return aims.length;
    }

    int letter(int code) {
        if (code < 32 || code > 126) {
            return AimDesk.OUTSIDE;
        }
        if (page.length() == 21) {
            return AimDesk.FULL;
        }
        page += (char) code;
        return page.length();
    }

    int blank() {
        int had = page.length();
        page = "";
        return had;
    }

    /** Whether some field begins so: a field's text can be had by cutting the end of a long one and filling it. */
    private static boolean begins(String text) {
        String rest = "1;1,1;1,1;1,1;1,1;1,1";
        if (text.length() > rest.length()) {
            return false;
        }
        return FIELD.matcher(text + rest.substring(text.length())).matches();
    }

    int fault() {
        for (int place = 0; place < page.length(); place++) {
            if (!begins(page.substring(0, place + 1))) {
                return place;
            }
        }
        return page.length();
    }

    int field() {
        if (!FIELD.matcher(page).matches()) {
            return AimDesk.STATE;
        }
        String[] parts = page.split(";");
        patches = Integer.parseInt(parts[0]);
        int n = parts.length - 1;
        middles = new int[n];
        sides = new int[n];
        aims = new int[n];
        shaded = new boolean[n];
        stuck = new boolean[n];
        for (int i = 0; i < n; i++) {
            String[] two = parts[i + 1].split(",");
            middles[i] = Integer.parseInt(two[0]);
            sides[i] = Integer.parseInt(two[1]);
            aims[i] = -1;
        }
        ceilings = new int[patches];
        Arrays.fill(ceilings, 20);
        page = "";
        fieldsRead++;
        return n;
    }

    int ceiling(int patch, int v) {
        if (patch < 0 || patch >= patches) {
            return AimDesk.UNKNOWN;
        }
        if (v < 0 || v > 60) {
            return AimDesk.OUTSIDE;
        }
        int was = ceilings[patch];
        ceilings[patch] = v;
        return was;
    }

    int shade(int bits) {
        if (mirrors() == 0) {
            return AimDesk.STATE;
        }
        if ((bits & (1 << mirrors()) - 1) != bits) {
            return AimDesk.OUTSIDE;
        }
        int were = bits(shaded);
        for (int i = 0; i < mirrors(); i++) {
            shaded[i] = (bits & 1 << i) != 0;
        }
        return were;
    }

    private static int bits(boolean[] flags) {
        int bits = 0;
        for (int i = 0; i < flags.length; i++) {
            bits += flags[i] ? (int) Math.pow(2, i) : 0;
        }
        return bits;
    }

    int stuck(int mirror, boolean is) {
        if (mirror < 0 || mirror >= mirrors()) {
            return AimDesk.UNKNOWN;
        }
        int was = stuck[mirror] ? 1 : 0;
        stuck[mirror] = is;
        return was;
    }

    int aim(int mirror, int aim) {
        if (mirror < 0 || mirror >= mirrors()) {
            return AimDesk.UNKNOWN;
        }
        if (aim < -1 || aim >= patches) {
            return AimDesk.OUTSIDE;
        }
        int[] then = aims.clone();
        then[mirror] = aim;
        if (stuck[mirror] || aim != -1 && !fits(then, false)) {
            return AimDesk.STATE;
        }
        int had = aims[mirror];
        aims = then;
        aimsGiven++;
        return had;
    }

    private int gives(int mirror, int aim, int patch) {
        if (aim == -1) {
            return 0;
        }
        return patch == aim ? middles[mirror] : patch == aim - 1 || patch == aim + 1 ? sides[mirror] : 0;
    }

    private int givesInAll(int mirror, int aim) {
        int all = 0;
        for (int patch = 0; patch < patches; patch++) {
            all += gives(mirror, aim, patch);
        }
        return all;
    }

    private int heat(int[] by, int patch, boolean cloudless) {
        int heat = 0;
        for (int i = 0; i < by.length; i++) {
            heat += shaded[i] && !cloudless ? 0 : gives(i, by[i], patch);
        }
        return heat;
    }

    private boolean fits(int[] by, boolean steady) {
        for (int patch = 0; patch < patches; patch++) {
            if (heat(by, patch, steady) > ceilings[patch]) {
                return false;
            }
        }
        return true;
    }

    private int caught(int[] by) {
        int caught = 0;
        for (int patch = 0; patch < patches; patch++) {
            caught += heat(by, patch, false);
        }
        return caught;
    }

    int mirror(int mirror, int what) {
        if (mirror < 0 || mirror >= mirrors()) {
            return AimDesk.UNKNOWN;
        }
        if (what < 0 || what > 5) {
            return AimDesk.OUTSIDE;
        }
        int given = shaded[mirror] ? 0 : givesInAll(mirror, aims[mirror]);
        return new int[] {middles[mirror], sides[mirror], aims[mirror], shaded[mirror] ? 1 : 0, stuck[mirror] ? 1 : 0,
            given}[what];
    }

    int patch(int patch, int what) {
        if (patch < 0 || patch >= patches) {
            return AimDesk.UNKNOWN;
        }
        if (what < 0 || what > 3) {
            return AimDesk.OUTSIDE;
        }
        int aiming = (int) Arrays.stream(aims).filter(a -> a == patch).count();
        return new int[] {heat(aims, patch, false), ceilings[patch], heat(aims, patch, true), aiming}[what];
    }

    /** All aims that are safe or steady and have stuck mirrors as they are, least aims of the first mirrors first. */
    private List<int[]> allowed(boolean steady) {
        List<int[]> found = new ArrayList<>();
        int[] by = new int[mirrors()];
        Arrays.fill(by, -1);
        boolean more = true;
        while (more) {
            boolean asStuck = true;
            for (int i = 0; i < by.length; i++) {
                asStuck &= !stuck[i] || by[i] == aims[i];
            }
            if (asStuck && fits(by, steady)) {
                found.add(by.clone());
            }
            int last = by.length - 1;
            while (last >= 0 && by[last] == patches - 1) {
                by[last] = -1;
                last--;
            }
            more = last >= 0;
            if (more) {
                by[last]++;
            }
        }
        return found;
    }

    private int[] bestAims(boolean steady) {
        int[] best = null;
        for (int[] by : allowed(steady)) {
            if (best == null || caught(by) > caught(best)) {
                best = by;
            }
        }
        return best;
    }

    private int bound() {
        int given = 0;
        for (int i = 0; i < mirrors(); i++) {
            int most = 0;
            for (int aim = -1; aim < patches; aim++) {
                most = Math.max(most, givesInAll(i, aim));
            }
            given += shaded[i] ? 0 : stuck[i] ? givesInAll(i, aims[i]) : most;
        }
        return Math.min(given, Arrays.stream(ceilings).sum());
    }

    int best(boolean steady, int what) {
        if (mirrors() == 0) {
            return AimDesk.STATE;
        }
        if (what < 0 || what > 14 || what > 1 && what < 10) {
            return AimDesk.OUTSIDE;
        }
        int[] best = bestAims(steady);
        if (best == null || what - 10 >= mirrors()) {
            return AimDesk.NONE;
        }
        return what == 0 ? caught(best) : what == 1 ? bound() - caught(best) : best[what - 10];
    }

    /** From the aims as they are forwards, least moves first: the first way found to anything is the least of the shortest. */
    private List<Integer> shortestChange(boolean steady) {
        int[] best = bestAims(steady);
        if (best == null) {
            return null;
        }
        Map<String, List<Integer>> ways = new HashMap<>();
        ArrayDeque<int[]> next = new ArrayDeque<>();
        ways.put(Arrays.toString(aims), List.of());
        next.add(aims);
        while (!next.isEmpty() && !ways.containsKey(Arrays.toString(best))) {
            int[] from = next.remove();
            for (int move = 0; move < 8 * mirrors(); move++) {
                int mirror = move / 8;
                int aim = move % 8 - 1;
                if (aim >= patches || stuck[mirror] || from[mirror] == aim) {
                    continue;
                }
                int[] to = from.clone();
                to[mirror] = aim;
                if (fits(to, steady) && !ways.containsKey(Arrays.toString(to))) {
                    List<Integer> way = new ArrayList<>(ways.get(Arrays.toString(from)));
                    way.add(move);
                    ways.put(Arrays.toString(to), way);
                    next.add(to);
                }
            }
        }
        return ways.get(Arrays.toString(best));
    }

    int change(boolean steady, int what) {
        if (mirrors() == 0) {
            return AimDesk.STATE;
        }
        if (what < 0 || what > 24 || what > 0 && what < 10) {
            return AimDesk.OUTSIDE;
        }
        List<Integer> moves = shortestChange(steady);
        if (moves == null || what - 10 >= moves.size()) {
            return AimDesk.NONE;
        }
        return what == 0 ? moves.size() : moves.get(what - 10);
    }

    int go(boolean steady) {
        List<Integer> moves = mirrors() == 0 ? null : shortestChange(steady);
        if (moves == null || moves.isEmpty()) {
            return AimDesk.STATE;
        }
        aims[moves.get(0) / 8] = moves.get(0) % 8 - 1;
        aimsGiven++;
        return moves.size() - 1;
    }

    int trade(int what) {
        if (mirrors() == 0) {
            return AimDesk.STATE;
        }
        if (what < 0 || what > 2) {
            return AimDesk.OUTSIDE;
        }
        int[] found = {0, AimDesk.NONE, AimDesk.NONE};
        for (int first = 0; first < mirrors(); first++) {
            for (int second = first + 1; second < mirrors(); second++) {
                int[] by = aims.clone();
                by[first] = aims[second];
                by[second] = aims[first];
                int more = caught(by) - caught(aims);
                if (!stuck[first] && !stuck[second] && fits(by, false) && more > found[0]) {
                    found = new int[] {more, first, second};
                }
            }
        }
        return found[0] == 0 ? AimDesk.NONE : found[what];
    }

    int relief() {
        if (mirrors() == 0) {
            return AimDesk.STATE;
        }
        for (int size = 0; size <= mirrors(); size++) {
            int found = AimDesk.NONE;
            int most = -1;
            for (int set = 0; set < 1 << mirrors(); set++) {
                int[] by = aims.clone();
                for (int i = 0; i < mirrors(); i++) {
                    by[i] = (set & 1 << i) != 0 ? -1 : by[i];
                }
                boolean free = (set & bits(stuck)) == 0;
                if (Integer.bitCount(set) == size && free && fits(by, false) && caught(by) > most) {
                    found = set;
                    most = caught(by);
                }
            }
            if (found != AimDesk.NONE) {
                return found;
            }
        }
        return AimDesk.NONE;
    }

    int count(int what) {
        if (what < 0 || what > 9) {
            return AimDesk.OUTSIDE;
        }
        return new int[] {mirrors(), patches, page.length(), caught(aims), fits(aims, false) ? 1 : 0,
            fits(aims, true) ? 1 : 0, bits(shaded), bits(stuck), fieldsRead, aimsGiven}[what];
    }

    long digest() {
        List<Integer> numbers = new ArrayList<>();
        for (int i = 0; i < 6 * mirrors(); i++) {
            numbers.add(mirror(i / 6, i % 6));
        }
        for (int i = 0; i < 4 * patches; i++) {
            numbers.add(patch(i / 4, i % 4));
        }
        for (int i = 0; i < 2 && mirrors() > 0; i++) {
            for (int what : new int[] {0, 1, 10, 11, 12, 13, 14}) {
                numbers.add(best(i == 1, what));
            }
            for (int what : new int[] {0, 10, 11, 12}) {
                numbers.add(change(i == 1, what));
            }
        }
        if (mirrors() > 0) {
            numbers.addAll(List.of(trade(0), trade(1), trade(2), relief()));
        }
        page.chars().forEach(numbers::add);
        for (int what = 0; what <= 9; what++) {
            numbers.add(count(what));
        }
        long h = 1733;
        for (int number : numbers) {
            h = 31 * h + number;
        }
        return h;
    }
}
