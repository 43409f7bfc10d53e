import java.util.ArrayDeque;
import java.util.ArrayList;
import java.util.Arrays;
import java.util.Collections;
import java.util.HashSet;
import java.util.LinkedHashSet;
import java.util.List;
import java.util.Set;
import java.util.regex.Matcher;
import java.util.regex.Pattern;

/**
 * The document once more, by words, lists and trying all: slow, but near to its sentences. It shares
 * nothing with the class, so that a slip in the one is not made in the other too.
 */
final class OfficeModel {
    static final int NONE = -1, UNKNOWN = -2, OUTSIDE = -3, NOT = -4, FULL = -5;
    static final int NULL = -11, EMPTY = -12, ROOM = -13;
    private static final Pattern TOKEN = Pattern.compile("[a-z]+|[0-9]+|[^ ]", Pattern.DOTALL);

    /** What texts tell. */
    static final class Told {
        int b = 4;
        int w = 2;
        int sight = 20;
        List<String> rhythms = new ArrayList<>();
        List<int[]> lights = new ArrayList<>();

        Told copy() {
            Told t = new Told();
            t.b = b;
            t.w = w;
            t.sight = sight;
            t.rhythms = new ArrayList<>(rhythms);
            t.lights = copyOf(lights);
            return t;
        }
    }

    /** Where a text has its fault. */
    static final class Fault extends Exception {
        private static final long serialVersionUID = 1L;
        final int place;

        Fault(int place) {
            this.place = place;
        }
    }

    /** A pair of a watch: the light, its rhythm, the shift at the begin and now, a flash missed. */
    static final class Pair {
        int light;
        int shift;
        boolean missed;
    }

    private String text = "";
    private Told told = new Told();
    private List<int[]> lights = new ArrayList<>();
    private final ArrayDeque<List<int[]>> past = new ArrayDeque<>();
    @SuppressWarnings({"unchecked", "rawtypes"})
    private final List<int[]>[] kept = new List[2];
    private List<Pair> watch = null;
    private boolean missing;
    @SuppressWarnings({"unchecked", "rawtypes"})
    private final List<Integer>[] tapes = new List[3];

    private static List<int[]> copyOf(List<int[]> lights) {
        List<int[]> copy = new ArrayList<>();
        for (int[] light : lights) {
            copy.add(light.clone());
        }
        return copy;
    }

    // ---- what is told

    int write(int letter) {
        if (letter < 0 || letter > 255) return OUTSIDE;
        if (text.length() == 200) return FULL;
        text += (char) letter;
        return text.length();
    }

    int erase() {
        int had = text.length();
        text = "";
        return had;
    }

    int fault() {
        try {
            reading(told.copy());
            return NONE;
        } catch (Fault fault) {
            return fault.place;
        }
    }

    int office() {
        Told then = told.copy();
        int clauses;
        try {
            clauses = reading(then);
        } catch (Fault fault) {
            return NOT;
        }
        told = then;
        lights = copyOf(then.lights);
        past.clear();
        Arrays.fill(kept, null);
        Arrays.fill(tapes, null);
        watch = null;
        text = "";
        return clauses;
    }

    private List<String> tokens;
    private List<Integer> begins;
    private int at;

    private int reading(Told t) throws Fault {
        tokens = new ArrayList<>();
        begins = new ArrayList<>();
        Matcher m = TOKEN.matcher(text);
        while (m.find()) {
            tokens.add(m.group());
            begins.add(m.start());
        }
        tokens.add("");
        begins.add(text.length());
        at = 0;
        int clauses = 0;
        while (true) {
            clause(t);
            clauses++;
            if (tokens.get(at).isEmpty()) return clauses;
            if (!tokens.get(at).equals(";") || clauses == 24) throw new Fault(begins.get(at));
            at++;
        }
    }

    private void clause(Told t) throws Fault {
        String word = tokens.get(at);
        boolean tooMany = word.equals("rhythm") && t.rhythms.size() == 8 || word.equals("light") && t.lights.size() == 6;
        if (tooMany || !List.of("beats", "window", "sight", "rhythm", "light", "lit").contains(word)) throw new Fault(begins.get(at));
        at++;
        if (word.equals("beats")) {
            int b = number(3, 8);
            t.rhythms.clear();
            t.lights.clear();
            t.b = b;
            t.w = 2;
            t.sight = 20;
        } else if (word.equals("window")) {
            t.w = number(2, t.b);
        } else if (word.equals("sight")) {
            t.sight = number(1, 99);
        } else if (word.equals("rhythm")) {
            if (!tokens.get(at).matches("[df]{" + t.b + "}")) throw new Fault(begins.get(at));
            t.rhythms.add(tokens.get(at));
            at++;
        } else if (word.equals("light")) {
            t.lights.add(new int[] {number(0, 99), NONE});
        } else {
            int light = number(0, t.lights.size() - 1);
            t.lights.get(light)[1] = number(0, t.rhythms.size() - 1);
        }
    }

    private int number(int least, int greatest) throws Fault {
        if (!tokens.get(at).matches("[0-9]{1,2}")) throw new Fault(begins.get(at));
        int n = Integer.parseInt(tokens.get(at));
        if (n < least || n > greatest) throw new Fault(begins.get(at));
        at++;
        return n;
    }

    private boolean noRhythm(int r) {
        return r < 0 || r >= told.rhythms.size();
    }

    private boolean noLight(int l) {
        return l < 0 || l >= lights.size();
    }

    private static int numberOf(String beats) {
        return Integer.parseInt(beats.replace('d', '0').replace('f', '1'), 2);
    }

    private static String turned(String beats, int k) {
        return beats.substring(k) + beats.substring(0, k);
    }

    private static Set<String> rows(String beats, int w) {
        Set<String> rows = new HashSet<>();
        for (int k = 0; k < beats.length(); k++) {
            rows.add((beats + beats).substring(k, k + w));
        }
        return rows;
    }

    private static boolean like(String one, String other, int w) {
        return !Collections.disjoint(rows(one, w), rows(other, w));
    }

    private static Set<String> dimmed(Set<String> rows) {
        Set<String> all = new HashSet<>(rows);
        for (String row : rows) {
            for (int i = 0; i < row.length(); i++) {
                if (row.charAt(i) == 'f') all.add(row.substring(0, i) + "d" + row.substring(i + 1));
            }
        }
        return all;
    }

    private boolean such(int one, int other, int strict) {
        Set<String> a = rows(told.rhythms.get(one), told.w);
        Set<String> b = rows(told.rhythms.get(other), told.w);
        if (strict == 0) return !Collections.disjoint(a, b);
        return !Collections.disjoint(dimmed(a), b) || !Collections.disjoint(a, dimmed(b));
    }

    int rhythm(int r, int what) {
        if (noRhythm(r)) return UNKNOWN;
        String beats = told.rhythms.get(r);
        List<Integer> numbers = new ArrayList<>();
        for (int k = 0; k < told.b; k++) {
            numbers.add(numberOf(turned(beats, k)));
        }
        int least = Collections.min(numbers);
        if (what == 0) return numberOf(beats);
        if (what == 1) return least;
        if (what == 2) return (beats + beats).indexOf(beats, 1);
        if (what == 3) return beats.replace("d", "").length();
        return what == 4 ? numbers.indexOf(least) : OUTSIDE;
    }

    private boolean near(int one, int other) {
        return one != other && Math.abs(lights.get(one)[0] - lights.get(other)[0]) <= told.sight;
    }

    private boolean clash(int one, int other) {
        int a = lights.get(one)[1];
        int b = lights.get(other)[1];
        return near(one, other) && a != NONE && b != NONE && such(a, b, 0);
    }

    int light(int l, int what) {
        if (noLight(l)) return UNKNOWN;
        if (what == 0 || what == 1) return lights.get(l)[what];
        if (what != 2 && what != 3) return OUTSIDE;
        int bits = 0;
        for (int other = 0; other < lights.size(); other++) {
            if (what == 2 ? near(l, other) : clash(l, other)) bits += 1 << other;
        }
        return bits;
    }

    int like(int one, int other, int what) {
        if (noRhythm(one) || noRhythm(other)) return UNKNOWN;
        if (what != 0 && what != 1) return OUTSIDE;
        return such(one, other, what) ? 1 : 0;
    }

    // ---- what is done

    private int change(int l, int field, int value) {
        past.push(copyOf(lights));
        if (past.size() > 8) past.removeLast();
        watch = null;
        int before = lights.get(l)[field];
        lights.get(l)[field] = value;
        return before;
    }

    int lit(int l, int r) {
        if (noLight(l) || noRhythm(r)) return UNKNOWN;
        return lights.get(l)[1] == r ? NOT : change(l, 1, r);
    }

    int dark(int l) {
        if (noLight(l)) return UNKNOWN;
        return lights.get(l)[1] == NONE ? NOT : change(l, 1, NONE);
    }

    int move(int l, int place) {
        if (noLight(l)) return UNKNOWN;
        if (place < 0 || place > 99) return OUTSIDE;
        return lights.get(l)[0] == place ? NOT : change(l, 0, place);
    }

    int undo() {
        if (past.isEmpty()) return NOT;
        lights = past.pop();
        watch = null;
        return past.size();
    }

    private int litOnes() {
        return (int) lights.stream().filter(light -> light[1] != NONE).count();
    }

    int keep(int k) {
        if (k != 0 && k != 1) return UNKNOWN;
        kept[k] = copyOf(lights);
        return litOnes();
    }

    int back(int k) {
        if (k != 0 && k != 1) return UNKNOWN;
        if (kept[k] == null) return NOT;
        lights = copyOf(kept[k]);
        past.clear();
        watch = null;
        return litOnes();
    }

    // ---- foretold

    int plan(int strict, int light) {
        if (light != NONE && noLight(light)) return UNKNOWN;
        if (strict != 0 && strict != 1) return OUTSIDE;
        int n = lights.size();
        int r = told.rhythms.size();
        boolean[][] such = new boolean[r][r];
        for (int i = 0; i < r; i++) {
            for (int j = 0; j < r; j++) such[i][j] = such(i, j, strict);
        }
        long all = Math.round(Math.pow(r, n));
        int[] best = null;
        long fewest = 99;
        for (long plan = 0; plan < all; plan++) {
            int[] chosen = new int[n];
            long rest = plan;
            for (int l = n - 1; l >= 0; l--) {
                chosen[l] = (int) (rest % r);
                rest /= r;
            }
            long unlike = Arrays.stream(chosen).distinct().count();
            if (unlike < fewest && stands(chosen, such)) {
                fewest = unlike;
                best = chosen;
            }
        }
        if (best == null) return NONE;
        return light == NONE ? (int) fewest : best[light];
    }

    private boolean stands(int[] chosen, boolean[][] such) {
        for (int i = 0; i < chosen.length; i++) {
            for (int j = 0; j < i; j++) {
                if (near(i, j) && such[chosen[i]][chosen[j]]) return false;
            }
        }
        return true;
    }

    int most(int strict) {
        if (strict != 0 && strict != 1) return OUTSIDE;
        int best = 0;
        for (int set = 0; set < 1 << told.rhythms.size(); set++) {
            boolean fits = true;
            for (int i = 0; i < told.rhythms.size(); i++) {
                for (int j = 0; j < i; j++) {
                    if ((set & 1 << i) != 0 && (set & 1 << j) != 0 && such(i, j, strict)) fits = false;
                }
            }
            if (fits && Integer.bitCount(set) > Integer.bitCount(best)) best = set;
        }
        return best;
    }

    int apart(int one, int other) {
        if (noRhythm(one) || noRhythm(other)) return UNKNOWN;
        for (int w = 1; w <= told.b; w++) {
            if (!like(told.rhythms.get(one), told.rhythms.get(other), w)) return w;
        }
        return NONE;
    }

    private Set<List<Integer>> firstSet(int q) {
        Set<List<Integer>> set = new LinkedHashSet<>();
        for (int l = 0; l < lights.size(); l++) {
            if (lights.get(l)[1] == NONE || Math.abs(lights.get(l)[0] - q) > told.sight) continue;
            for (int shift = 0; shift < told.b; shift++) set.add(List.of(l, shift));
        }
        return set;
    }

    private int beatAt(int light, int shift) {
        return told.rhythms.get(lights.get(light)[1]).charAt(shift) == 'f' ? 1 : 0;
    }

    private Set<List<Integer>> behind(Set<List<Integer>> set, int beat) {
        Set<List<Integer>> next = new HashSet<>();
        for (List<Integer> pair : set) {
            if (beatAt(pair.get(0), pair.get(1)) == beat) next.add(List.of(pair.get(0), (pair.get(1) + 1) % told.b));
        }
        return next;
    }

    int machine(int q, int what) {
        if (q < 0 || q > 99 || what != 0 && what != 1) return OUTSIDE;
        Set<List<Integer>> first = firstSet(q);
        if (first.isEmpty()) return what == 0 ? 0 : NONE;
        return what == 0 ? states(first) : named(first);
    }

    private int states(Set<List<Integer>> first) {
        Set<Set<List<Integer>>> found = new HashSet<>();
        ArrayDeque<Set<List<Integer>>> open = new ArrayDeque<>();
        found.add(first);
        open.add(first);
        while (!open.isEmpty()) {
            Set<List<Integer>> set = open.remove();
            for (int beat = 0; beat < 2; beat++) {
                Set<List<Integer>> next = behind(set, beat);
                if (!next.isEmpty() && found.add(next)) open.add(next);
            }
        }
        return found.size();
    }

    private int named(Set<List<Integer>> first) {
        Set<Set<List<Integer>>> level = new HashSet<>();
        level.add(first);
        for (int n = 0; n <= 40; n++) {
            boolean all = true;
            Set<Set<List<Integer>>> next = new HashSet<>();
            for (Set<List<Integer>> set : level) {
                all &= set.stream().map(pair -> pair.get(0)).distinct().count() == 1;
                next.add(behind(set, 0));
                next.add(behind(set, 1));
            }
            if (all) return n;
            next.remove(Set.<List<Integer>>of());
            level = next;
        }
        return NONE;
    }

    // ---- a watch

    int watch(int q, int miss) {
        if (q < 0 || q > 99 || miss != 0 && miss != 1) return OUTSIDE;
        watch = new ArrayList<>();
        missing = miss == 1;
        for (List<Integer> pair : firstSet(q)) {
            Pair p = new Pair();
            p.light = pair.get(0);
            p.shift = pair.get(1);
            watch.add(p);
        }
        return watch.size();
    }

    int see(int beat) {
        if (beat != 0 && beat != 1) return OUTSIDE;
        if (watch == null) return NOT;
        List<Pair> fitting = new ArrayList<>();
        for (Pair p : watch) {
            int has = beatAt(p.light, p.shift);
            boolean forgiven = missing && has == 1 && beat == 0 && !p.missed;
            if (has != beat && !forgiven) continue;
            p.missed |= has != beat;
            p.shift = (p.shift + 1) % told.b;
            fitting.add(p);
        }
        watch = fitting;
        return watch.size();
    }

    int left(int what, int k) {
        if (what != 0 && what != 1 || k < 0) return OUTSIDE;
        if (watch == null) return NOT;
        if (what == 0) return watch.stream().mapToInt(p -> 1 << p.light).distinct().sum();
        return k < watch.size() ? 10 * watch.get(k).light + watch.get(k).shift : NONE;
    }

    // ---- tapes

    private static boolean noTape(int t) {
        return t < 0 || t > 2;
    }

    private static boolean noNumber(int v) {
        return Math.abs((long) v) > 9999;
    }

    int tape(int t) {
        if (noTape(t)) return UNKNOWN;
        tapes[t] = new ArrayList<>();
        return 0;
    }

    int put(int t, int end, int v) {
        if (noTape(t)) return UNKNOWN;
        if (end != 0 && end != 1 || noNumber(v)) return OUTSIDE;
        if (tapes[t] == null) return NULL;
        if (tapes[t].size() == 12) return ROOM;
        tapes[t].add(end == 0 ? 0 : tapes[t].size(), v);
        return tapes[t].size();
    }

    int draw(int t, int end) {
        if (noTape(t)) return UNKNOWN;
        if (end != 0 && end != 1) return OUTSIDE;
        if (tapes[t] == null) return NULL;
        if (tapes[t].isEmpty()) return EMPTY;
        return 50000 + tapes[t].remove(end == 0 ? 0 : tapes[t].size() - 1);
    }

    int turn(int t, int n) {
        if (noTape(t)) return UNKNOWN;
        if (n < 0 || n > 99) return OUTSIDE;
        if (tapes[t] == null) return NULL;
        if (tapes[t].isEmpty()) return EMPTY;
        Collections.rotate(tapes[t], -n);
        return tapes[t].size();
    }

    int find(int t, int what, int v) {
        if (noTape(t)) return UNKNOWN;
        if (what < 0 || what > 2 || noNumber(v)) return OUTSIDE;
        if (tapes[t] == null) return NULL;
        if (what == 2) return Collections.frequency(tapes[t], v);
        if (tapes[t].isEmpty()) return EMPTY;
        return 50000 + (what == 0 ? Collections.max(tapes[t]) : Collections.min(tapes[t]));
    }

    int strike(int t, int v) {
        if (noTape(t)) return UNKNOWN;
        if (noNumber(v)) return OUTSIDE;
        if (tapes[t] == null) return NULL;
        int had = tapes[t].size();
        tapes[t].removeAll(List.of(v));
        return had - tapes[t].size();
    }

    int load(int t, int r, int k) {
        if (noTape(t) || noRhythm(r)) return UNKNOWN;
        if (k < 0 || k >= told.b) return OUTSIDE;
        if (tapes[t] == null) return NULL;
        if (tapes[t].size() + told.b > 12) return ROOM;
        for (char beat : turned(told.rhythms.get(r), k).toCharArray()) {
            tapes[t].add(beat == 'f' ? 1 : 0);
        }
        return tapes[t].size();
    }

    int drop(int t) {
        if (noTape(t)) return UNKNOWN;
        if (tapes[t] == null) return NULL;
        int had = tapes[t].size();
        tapes[t] = null;
        return had;
    }

    int count(int what) {
        switch (what) {
            case 0: return told.b;
            case 1: return told.w;
            case 2: return told.sight;
            case 3: return told.rhythms.size();
            case 4: return lights.size();
            case 5: return bitsOfLit();
            case 6: return clashes();
            case 7: return watch == null ? 0 : watch.size();
            case 8: return Arrays.stream(tapes).mapToInt(t -> t == null ? 0 : t.size()).sum();
            case 9: return past.size();
            case 10: return text.length();
            default: return OUTSIDE;
        }
    }

    private int bitsOfLit() {
        int bits = 0;
        for (int l = 0; l < lights.size(); l++) {
            if (lights.get(l)[1] != NONE) bits += 1 << l;
        }
        return bits;
    }

    private int clashes() {
        int pairs = 0;
        for (int i = 0; i < lights.size(); i++) {
            for (int j = 0; j < i; j++) {
                if (clash(i, j)) pairs++;
            }
        }
        return pairs;
    }
}
