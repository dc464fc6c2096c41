import java.util.ArrayList;
import java.util.Arrays;
import java.util.HashMap;
import java.util.HashSet;
import java.util.List;
import java.util.Map;
import java.util.Set;
import java.util.TreeSet;
import java.util.regex.Matcher;
import java.util.regex.Pattern;

/** The document once more, as slowly and plainly as can be and by other ways: what the fuzz test compares with. */
final class PlainAlbum {
    private static final int BAD = -1, STATE = -2, FULL = -3, NONE = -9, NO = -1000000;
    private static final int[][] AHEAD = {{1, 0}, {0, 1}, {-1, 0}, {0, -1}, {0, 0}};
    private static final Pattern TOKEN = Pattern.compile("[a-z]+|[0-9]+|[^ ]", Pattern.DOTALL);

    private static final class Fault extends Exception {
        private static final long serialVersionUID = 1;
        final int place;

        Fault(int place) {
            this.place = place;
        }
    }

    private record Cell(int x, int y) { }

    private record Image(List<int[]> facts, List<int[]> seen, Map<Integer, Integer> hat) { }

    private String text = "";
    private int wide = 8;
    private int high = 8;
    private Set<Cell> walls = new HashSet<>();
    private List<int[]> people = new ArrayList<>();
    private List<int[]> pictures = new ArrayList<>();
    private List<int[]> facts = new ArrayList<>();
    private List<int[]> seen = new ArrayList<>();
    private Map<Integer, Integer> hat = new HashMap<>();
    private Image[] images = new Image[2];
    private long trace = 0;
    private final Map<String, int[]> rights = new HashMap<>();

    int type(long v, int n) {
        if (n < 1 || n > 8) {
            return BAD;
        }
        if (text.length() + n > 400) {
            return FULL;
        }
        byte[] bytes = java.math.BigInteger.valueOf(v).toByteArray();
        for (int k = n; k >= 1; k--) {
            int at = bytes.length - k;
            text += (char) (at >= 0 ? bytes[at] & 255 : v < 0 ? 255 : 0);
        }
        return text.length();
    }

    int clear() {
        int had = text.length();
        text = "";
        return had;
    }

    int square() {
        PlainAlbum told = new PlainAlbum();
        int items;
        try {
            items = told.read(text);
        } catch (Fault fault) {
            return -10 - fault.place;
        }
        wide = told.wide;
        high = told.high;
        walls = told.walls;
        people = told.people;
        pictures = told.pictures;
        hat = new HashMap<>();
        images = new Image[2];
        text = "";
        return items;
    }

    private int read(String all) throws Fault {
        List<String> tokens = new ArrayList<>();
        List<Integer> places = new ArrayList<>();
        Matcher matcher = TOKEN.matcher(all);
        while (matcher.find()) {
            tokens.add(matcher.group());
            places.add(matcher.start());
        }
        tokens.add("");
        places.add(all.length());
        int at = 0;
        int items = 0;
        while (!tokens.get(at).isEmpty()) {
            String word = tokens.get(at);
            boolean may = word.equals("square") && items == 0 || word.equals("wall") || word.equals("person") && people.size() < 8
                    || word.equals("picture") && pictures.size() < 10;
            if (!may) {
                throw new Fault(places.get(at));
            }
            int[][] limits = limits(word);
            int[] row = new int[limits.length];
            for (int k = 0; k < limits.length; k++) {
                at++;
                String number = tokens.get(at);
                if (!number.matches("0|[1-9][0-9]?") || Integer.parseInt(number) < limits[k][0]
                        || Integer.parseInt(number) > limits[k][1]) {
                    throw new Fault(places.get(at));
                }
                row[k] = Integer.parseInt(number);
            }
            at++;
            if (!tokens.get(at).equals(";")) {
                throw new Fault(places.get(at));
            }
            at++;
            items++;
            take(word, row);
        }
        return items;
    }

    private int[][] limits(String word) {
        int[] x = {0, wide - 1};
        int[] y = {0, high - 1};
        int[] second = {0, 99};
        return switch (word) {
            case "square" -> new int[][] {{3, 12}, {3, 12}};
            case "wall" -> new int[][] {x, y};
            case "person" -> new int[][] {x, y, {0, 4}, second, second, {0, 9}};
            default -> new int[][] {x, y, {0, 3}, {1, 9}, second};
        };
    }

    private void take(String word, int[] row) {
        switch (word) {
            case "square" -> {
                wide = row[0];
                high = row[1];
            }
            case "wall" -> walls.add(new Cell(row[0], row[1]));
            case "person" -> people.add(row);
            default -> pictures.add(row);
        }
    }

    private static boolean out(int number, int least, int most) {
        return number < least || number > most;
    }

    private boolean noCell(int x, int y) {
        return out(x, 0, wide - 1) || out(y, 0, high - 1);
    }

    private boolean noPerson(int p) {
        return out(p, 0, people.size() - 1);
    }

    private boolean noPicture(int i) {
        return out(i, 0, pictures.size() - 1);
    }

    int wall(int x, int y) {
        return noCell(x, y) ? BAD : walls.contains(new Cell(x, y)) ? 1 : 0;
    }

    int person(int p, int what) {
        return noPerson(p) || out(what, 0, 5) ? BAD : people.get(p)[what];
    }

    int picture(int i, int what) {
        return noPicture(i) || out(what, 0, 4) ? BAD : pictures.get(i)[what];
    }

    /** Walks second by second. */
    private Cell place(int p, int t) {
        int[] row = people.get(p);
        if (t < row[3] || t > row[3] + row[4]) {
            return null;
        }
        int x = row[0];
        int y = row[1];
        for (int s = row[3]; s < t; s++) {
            x += AHEAD[row[2]][0];
            y += AHEAD[row[2]][1];
        }
        Cell cell = new Cell(x, y);
        return noCell(x, y) || walls.contains(cell) ? null : cell;
    }

    int where(int p, int t) {
        if (noPerson(p) || out(t, 0, 199)) {
            return BAD;
        }
        Cell cell = place(p, t);
        return cell == null ? NONE : wide * cell.y + cell.x;
    }

    private int standing(Cell cell, int t) {
        int bits = 0;
        for (int p = 0; p < people.size(); p++) {
            if (cell.equals(place(p, t))) {
                bits += 1 << p;
            }
        }
        return bits;
    }

    int on(int x, int y, int t) {
        return noCell(x, y) || out(t, 0, 199) ? BAD : standing(new Cell(x, y), t);
    }

    private static Cell cellOf(int x, int y, int way, int a, int b) {
        int[] ahead = AHEAD[way];
        int[] side = AHEAD[way == 3 ? 0 : way + 1];
        return new Cell(x + a * ahead[0] + b * side[0], y + a * ahead[1] + b * side[1]);
    }

    /** All cells of a view, with what there is of each: 1 not hidden, 2 by a wall, 3 by people. */
    private Map<Cell, Integer> cellsOf(int x, int y, int way, int reach, int t) {
        Map<Cell, Integer> all = new HashMap<>();
        for (int a = 1; a <= reach; a++) {
            for (int b = -(int) Math.floor(a / 2.0); b <= Math.floor(a / 2.0); b++) {
                int state = 1;
                for (int k = a - 1; k >= 1; k--) {
                    int aside = Integer.signum(b) * (Math.abs(b) * k / a);
                    Cell between = cellOf(x, y, way, k, aside);
                    if (walls.contains(between)) {
                        state = 2;
                    } else if (standing(between, t) != 0) {
                        state = 3;
                    }
                }
                all.put(cellOf(x, y, way, a, b), state);
            }
        }
        return all;
    }

    private int shown(int x, int y, int way, int reach, int t) {
        int bits = 0;
        for (Map.Entry<Cell, Integer> entry : cellsOf(x, y, way, reach, t).entrySet()) {
            if (entry.getValue() == 1) {
                bits |= standing(entry.getKey(), t);
            }
        }
        return bits;
    }

    private int shown(int[] picture, int reach, int t) {
        return shown(picture[0], picture[1], picture[2], reach, t);
    }

    private int shown(int i) {
        int[] picture = pictures.get(i);
        return shown(picture, picture[3], picture[4]);
    }

    int shows(int i) {
        return noPicture(i) ? BAD : shown(i);
    }

    int view(int x, int y, int way, int reach, int t) {
        if (noCell(x, y) || out(way, 0, 3) || out(reach, 1, 9) || out(t, 0, 199)) {
            return BAD;
        }
        return shown(x, y, way, reach, t);
    }

    int hidden(int i, int p) {
        if (noPicture(i) || noPerson(p)) {
            return BAD;
        }
        int[] picture = pictures.get(i);
        Cell cell = place(p, picture[4]);
        Integer state = cell == null ? null
                : cellsOf(picture[0], picture[1], picture[2], picture[3], picture[4]).get(cell);
        return state == null ? 0 : state;
    }

    int from(int set, int reach, int t, int what) {
        if (out(set, 0, (1 << people.size()) - 1) || out(reach, 1, 9) || out(t, 0, 199) || out(what, 0, 1)) {
            return BAD;
        }
        TreeSet<Integer> places = new TreeSet<>();
        for (int way = 0; way < 4; way++) {
            for (int x = 0; x < wide; x++) {
                for (int y = 0; y < high; y++) {
                    if (!walls.contains(new Cell(x, y)) && shown(x, y, way, reach, t) == set) {
                        places.add(4 * (wide * y + x) + way);
                    }
                }
            }
        }
        return what == 0 ? places.size() : places.isEmpty() ? NONE : places.first();
    }

    int fact(int a, int u, int b, int v) {
        if (out(a, 0, 3) || out(b, 0, 3) || a == b || out(u, 0, 99) || out(v, 0, 99)) {
            return BAD;
        }
        if (facts.size() == 20) {
            return FULL;
        }
        facts.add(new int[] {a, u, b, v});
        return facts.size();
    }

    int right(int what) {
        if (out(what, 0, 3)) {
            return NO;
        }
        return rights.computeIfAbsent(Arrays.deepToString(facts.toArray()), key -> putRight())[what];
    }

    private int[] putRight() {
        int[] best = {facts.size() + 1, 0, 0, 0};
        for (int one = 20; one >= -20; one--) {
            for (int two = 20; two >= -20; two--) {
                for (int three = 20; three >= -20; three--) {
                    int[] ahead = {0, one, two, three};
                    int outliers = 0;
                    for (int[] f : facts) {
                        if (f[3] - f[1] != ahead[f[2]] - ahead[f[0]]) {
                            outliers++;
                        }
                    }
                    if (outliers <= best[0]) {
                        best = new int[] {outliers, one, two, three};
                    }
                }
            }
        }
        return best;
    }

    int seen(int x, int y, int t, int mark) {
        if (noCell(x, y) || out(t, 0, 99) || out(mark, 0, 9)) {
            return BAD;
        }
        if (seen.size() == 8) {
            return FULL;
        }
        seen.add(new int[] {x, y, t, mark});
        return seen.size();
    }

    private static boolean canBeOne(int[] s, int[] o) {
        int apart = Math.abs(s[0] - o[0]) + Math.abs(s[1] - o[1]);
        int seconds = Math.abs(s[2] - o[2]);
        return s[3] == o[3] && apart <= seconds && (seconds != 0 || Arrays.equals(s, o));
    }

    int joined() {
        List<int[]> sorted = new ArrayList<>(seen);
        sorted.sort((s, o) -> s[2] != o[2] ? s[2] - o[2] : Arrays.compare(s, o));
        return fewest(sorted, 0, new ArrayList<>());
    }

    /** Each sighting goes on from any who can have come to it, or is somebody new: all of these are tried. */
    private static int fewest(List<int[]> sorted, int at, List<int[]> last) {
        if (at == sorted.size()) {
            return last.size();
        }
        int[] now = sorted.get(at);
        last.add(now);
        int best = fewest(sorted, at + 1, last);
        last.remove(last.size() - 1);
        for (int one = 0; one < last.size(); one++) {
            int[] before = last.get(one);
            if (canBeOne(before, now)) {
                last.set(one, now);
                best = Math.min(best, fewest(sorted, at + 1, last));
                last.set(one, before);
            }
        }
        return best;
    }

    int forget() {
        int were = facts.size() + seen.size();
        facts = new ArrayList<>();
        seen = new ArrayList<>();
        return were;
    }

    int all(int i, int j, int what) {
        if (noPicture(i) || noPicture(j) || i == j || out(what, 0, 1)) {
            return BAD;
        }
        int both = Integer.bitCount(shown(i) & shown(j));
        if (both == 0) {
            return STATE;
        }
        int upper = Integer.bitCount(shown(i)) * Integer.bitCount(shown(j));
        int common = java.math.BigInteger.valueOf(upper).gcd(java.math.BigInteger.valueOf(both)).intValue();
        return what == 0 ? upper / common : both / common;
    }

    int has(int i, int is) {
        if (noPicture(i) || out(is, 0, 2)) {
            return BAD;
        }
        Integer was = hat.put(i, is);
        return was == null ? 2 : was;
    }

    private TreeSet<Integer> secondsOf(int is) {
        TreeSet<Integer> seconds = new TreeSet<>();
        hat.forEach((i, told) -> {
            if (told == is) {
                seconds.add(pictures.get(i)[4]);
            }
        });
        return seconds;
    }

    int hat(int what) {
        if (out(what, 0, 1)) {
            return BAD;
        }
        TreeSet<Integer> with = secondsOf(1);
        if (what == 0) {
            return with.isEmpty() ? NONE : with.last();
        }
        Integer without = with.isEmpty() ? secondsOf(0).ceiling(0) : secondsOf(0).higher(with.last());
        return without == null ? NONE : without;
    }

    int near(int x, int y, int r) {
        if (noCell(x, y) || out(r, 0, 11)) {
            return BAD;
        }
        if (hat(0) == NONE || hat(1) == NONE) {
            return STATE;
        }
        int bits = 0;
        for (int p = 0; p < people.size(); p++) {
            for (int t = hat(0); t <= hat(1); t++) {
                Cell cell = place(p, t);
                if (cell != null && Math.max(Math.abs(cell.x - x), Math.abs(cell.y - y)) <= r) {
                    bits |= 1 << p;
                }
            }
        }
        return bits;
    }

    int empty(int i, int what) {
        if (noPicture(i) || out(what, 0, 1)) {
            return BAD;
        }
        int[] own = pictures.get(i);
        Set<Cell> ground = new HashSet<>(cellsOf(own[0], own[1], own[2], own[3], own[4]).keySet());
        ground.removeIf(cell -> noCell(cell.x, cell.y) || walls.contains(cell));
        Map<Integer, Set<Cell>> empties = new HashMap<>();
        for (int j = 0; j < pictures.size(); j++) {
            int[] other = pictures.get(j);
            if (Arrays.equals(own, 0, 4, other, 0, 4)) {
                Set<Cell> clear = new HashSet<>();
                cellsOf(other[0], other[1], other[2], other[3], other[4]).forEach((cell, state) -> {
                    if (state == 1 && standing(cell, other[4]) == 0) {
                        clear.add(cell);
                    }
                });
                empties.put(j, clear);
            }
        }
        if (what == 1) {
            Set<Cell> never = new HashSet<>(ground);
            empties.values().forEach(never::removeAll);
            return never.size();
        }
        return fewestThatClear(ground, empties);
    }

    private static int fewestThatClear(Set<Cell> ground, Map<Integer, Set<Cell>> empties) {
        for (int many = 0; many <= empties.size(); many++) {
            for (int set = 0; set < 1024; set++) {
                Set<Cell> left = new HashSet<>(ground);
                boolean may = Integer.bitCount(set) == many;
                for (int j = 0; j < 10 && may; j++) {
                    if ((set & 1 << j) != 0) {
                        may = empties.containsKey(j);
                        left.removeAll(empties.getOrDefault(j, Set.of()));
                    }
                }
                if (may && left.isEmpty()) {
                    return set;
                }
            }
        }
        return NONE;
    }

    int waits(int i) {
        if (noPicture(i)) {
            return BAD;
        }
        int[] picture = pictures.get(i);
        int wait = 0;
        while (wait < 100 && shown(picture, picture[3], picture[4] + wait) != 0) {
            wait++;
        }
        return wait == 100 ? NONE : wait;
    }

    int lost() {
        int sum = 0;
        for (int i = 0; i < pictures.size(); i++) {
            sum += Math.max(0, waits(i));
        }
        return sum;
    }

    int told(int p, int what) {
        if (noPerson(p) || out(what, 0, 3)) {
            return BAD;
        }
        int[] with = new int[8];
        TreeSet<Integer> seconds = new TreeSet<>();
        for (int i = 0; i < pictures.size(); i++) {
            int bits = shown(i);
            if ((bits & 1 << p) == 0) {
                continue;
            }
            seconds.add(pictures.get(i)[4]);
            for (int q = 0; q < 8; q++) {
                with[q] += bits >> q & 1;
            }
        }
        int own = with[p];
        with[p] = 0;
        int best = 7;
        for (int q = 7; q >= 0; q--) {
            best = with[q] >= with[best] ? q : best;
        }
        return switch (what) {
            case 0 -> own;
            case 1 -> with[best] == 0 ? NONE : best;
            case 2 -> seconds.isEmpty() ? NONE : seconds.first();
            default -> seconds.isEmpty() ? NONE : seconds.last();
        };
    }

    int rule(int k) {
        if (out(k, 0, 10)) {
            return BAD;
        }
        int greatest = 0;
        for (int d = 0; d <= 9; d++) {
            boolean holds = true;
            for (int p = 0; p < people.size(); p++) {
                int in = 0;
                for (int[] picture : pictures) {
                    in += shown(picture, Math.min(picture[3], d), picture[4]) >> p & 1;
                }
                holds &= in <= k;
            }
            greatest = holds ? d : greatest;
        }
        return greatest;
    }

    int untrue(int i, int set) {
        if (noPicture(i) || out(set, 0, (1 << people.size()) - 1)) {
            return BAD;
        }
        return Integer.bitCount(set & ~shown(i)) + Integer.bitCount(shown(i) & ~set);
    }

    int rate(int kind, int i) {
        if (out(kind, 0, 5) || noPicture(i)) {
            return NO;
        }
        long[] traces = {1, 10, 100, 1000, 10000, 100000};
        int[] above = {0, 0, 0, 2, 1, 0};
        trace += traces[kind];
        return switch (kind) {
            case 0 -> Integer.bitCount(shown(i));
            case 1 -> rate(above[1], i) + picture(i, 3);
            case 2 -> rate(above[2], i) * 3;
            case 3 -> rate(above[3], i) + (waits(i) == NONE ? 100 : waits(i));
            case 4 -> rate(above[4], i) * 2;
            default -> rate(above[5], i) - picture(i, 4);
        };
    }

    int keep(int image) {
        if (out(image, 0, 1)) {
            return BAD;
        }
        images[image] = new Image(List.copyOf(facts), List.copyOf(seen), Map.copyOf(hat));
        return facts.size();
    }

    int back(int image) {
        if (out(image, 0, 1)) {
            return BAD;
        }
        if (images[image] == null) {
            return STATE;
        }
        facts = new ArrayList<>(images[image].facts);
        seen = new ArrayList<>(images[image].seen);
        hat = new HashMap<>(images[image].hat);
        return facts.size();
    }

    int count(int what) {
        int[] counts = {people.size(), pictures.size(), walls.size(), facts.size(), seen.size(), text.length(), wide, high};
        return out(what, 0, 7) ? BAD : counts[what];
    }

    long trace() {
        return trace;
    }
}
