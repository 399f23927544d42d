import java.util.ArrayList;
import java.util.Arrays;
import java.util.Collections;
import java.util.HashMap;
import java.util.LinkedHashMap;
import java.util.List;
import java.util.Map;
import java.util.regex.Pattern;

/**
 * The document once more, in the slowest and plainest way: texts as strings, every parting tried,
 * nothing kept from one call to the next. It is held against the class by random runs.
 */
final class Model {
    private static final int NONE = -1, BAD = -2, NOT = -3, FULL = -4;
    private static final String NAME_OF_WORD = "[a-z]{1,10}";
    private static final Pattern WELL = Pattern.compile(
        "(" + NAME_OF_WORD + "( " + NAME_OF_WORD + "){0,8}\\. ?){0,12}", Pattern.DOTALL);

    private String text = "";
    private int rule = 0, fee = 3, link = 2, window = 2, told = 0, latest = 0;
    private final Object[] sheets = new Object[4];

    int type(int b) {
        if (b < 0 || b > 255) return BAD;
        if (text.length() == 200) return FULL;
        text += (char) b;
        return text.length();
    }

    int wipe() {
        int had = text.length();
        text = "";
        return had;
    }

    int undo() {
        if (text.isEmpty()) return NOT;
        text = text.substring(0, text.length() - 1);
        return text.length();
    }

    /** The shortest beginning of the text that no text can go on from, tells the place. */
    private int[] faultOf() {
        if (WELL.matcher(text).matches()) return new int[] {NONE, NONE, NONE};
        for (int p = 0; p < text.length(); p++) {
            String ahead = text.substring(0, p);
            int reason = reasonAt(ahead, text.charAt(p));
            if (reason != 0) return new int[] {p, reason, dots(ahead)};
        }
        return new int[] {text.length(), 5, dots(text)};
    }

    private static int dots(String s) {
        return (int) s.chars().filter(c -> c == '.').count();
    }

    private static int reasonAt(String ahead, char c) {
        if (!(c >= 'a' && c <= 'z' || c == ' ' || c == '.')) return 1;
        String inSentence = ahead.substring(ahead.lastIndexOf('.') + 1);
        String word = inSentence.substring(inSentence.lastIndexOf(' ') + 1);
        boolean letter = c >= 'a' && c <= 'z';
        if (letter && word.length() == 10) return 2;
        if (!letter && word.isEmpty()) {
            boolean behindDot = c == ' ' && ahead.endsWith(".");
            return behindDot ? 0 : 3;
        }
        if (letter && word.isEmpty()) {
            boolean first = inSentence.isBlank();
            if (first && dots(ahead) == 12) return 4;
            if (!first && inSentence.trim().split(" ").length == 9) return 4;
        }
        return 0;
    }

    int fault(int what) {
        return what < 0 || what > 2 ? BAD : faultOf()[what];
    }

    int set(int what, int v) {
        int was;
        if (what == 0 && v >= 0 && v <= 3) {
            was = rule;
            rule = v;
        } else if (what == 1 && v >= 0 && v <= 40) {
            was = fee;
            fee = v;
        } else if (what == 2 && v >= 1 && v <= 4) {
            was = link;
            link = v;
        } else if (what == 3 && v >= 1 && v <= 4) {
            was = window;
            window = v;
        } else {
            was = BAD;
        }
        return was;
    }

    int tell(int gaps) {
        if (gaps < 0 || gaps > 4094 || gaps % 2 == 1) return BAD;
        int was = told;
        told = gaps;
        return was;
    }

    private int find(int number) {
        latest = number;
        return -10 - number;
    }

    int read(int s) {
        if (s < 0 || s > 3) return BAD;
        if (sheets[s] == null) return find(1);
        int came = 0;
        for (long v : items(s)) {
            if (v < 0 || v > 255 || type((int) v) == FULL) break;
            came++;
        }
        return came;
    }

    // ---- sentences, stems, chains

    private List<List<String>> sentences() {
        List<List<String>> all = new ArrayList<>();
        if (faultOf()[0] != NONE) return all;
        for (String s : text.split("\\.")) {
            if (s.isBlank()) continue;
            List<String> stems = new ArrayList<>();
            for (String w : s.trim().split(" ")) stems.add(stemOf(w));
            all.add(stems);
        }
        return all;
    }

    private static String stemOf(String w) {
        if (w.endsWith("ing") && w.length() >= 6) return w.substring(0, w.length() - 3);
        if (w.endsWith("ed") && w.length() >= 5) return w.substring(0, w.length() - 2);
        if (w.endsWith("s") && !w.endsWith("ss") && w.length() >= 4) return w.substring(0, w.length() - 1);
        return w;
    }

    private List<String> stems() {
        Map<String, Integer> seen = new LinkedHashMap<>();
        for (List<String> s : sentences()) {
            for (String w : s) seen.put(w, 1);
        }
        return new ArrayList<>(seen.keySet());
    }

    private static Map<String, Integer> tally(List<List<String>> block) {
        Map<String, Integer> times = new HashMap<>();
        for (List<String> s : block) {
            for (String w : s) times.merge(w, 1, Integer::sum);
        }
        return times;
    }

    int sentence(int sentence, int what) {
        List<List<String>> all = sentences();
        if (sentence < 0 || sentence >= all.size() || what < 0 || what > 3) return BAD;
        Map<String, Integer> times = tally(all.subList(sentence, sentence + 1));
        if (what == 0) return all.get(sentence).size();
        if (what == 1) return times.size();
        if (what == 2) return Collections.frequency(new ArrayList<>(times.values()), 1);
        int at = 0;
        for (int s = 0; s < sentence; s++) at = text.indexOf('.', at) + 1;
        return text.charAt(at) == ' ' ? at + 1 : at;
    }

    int word(int sentence, int word) {
        List<List<String>> all = sentences();
        if (sentence < 0 || sentence >= all.size()) return BAD;
        if (word < 0 || word >= all.get(sentence).size()) return BAD;
        return stems().indexOf(all.get(sentence).get(word));
    }

    int stem(int stem, int what) {
        List<String> stems = stems();
        if (stem < 0 || stem >= stems.size() || what < 0 || what > 3) return BAD;
        String it = stems.get(stem);
        List<List<String>> all = sentences();
        if (what == 0) return it.length();
        if (what == 1) return tally(all).get(it);
        List<Integer> where = new ArrayList<>();
        for (int s = 0; s < all.size(); s++) {
            if (all.get(s).contains(it)) where.add(s);
        }
        return what == 2 ? Collections.min(where) : Collections.max(where);
    }

    int letter(int stem, int i) {
        List<String> stems = stems();
        if (stem < 0 || stem >= stems.size()) return BAD;
        String it = stems.get(stem);
        return i < 0 || i >= it.length() ? BAD : it.charAt(i);
    }

    /** Each as stem, first, last, words, weight. */
    private List<int[]> allChains() {
        List<List<String>> all = sentences();
        List<String> stems = stems();
        List<int[]> chains = new ArrayList<>();
        for (int t = 0; t < stems.size(); t++) {
            List<int[]> ofStem = new ArrayList<>();
            for (int s = 0; s < all.size(); s++) {
                int times = Collections.frequency(all.get(s), stems.get(t));
                if (times == 0) continue;
                int[] last = ofStem.isEmpty() ? null : ofStem.get(ofStem.size() - 1);
                if (last != null && s <= last[2] + link) {
                    last[2] = s;
                    last[3] += times;
                } else {
                    ofStem.add(new int[] {t, s, s, times, 0});
                }
            }
            for (int[] c : ofStem) {
                c[4] = c[3] * (c[2] + 1 - c[1]);
                if (c[3] >= 2) chains.add(c);
            }
        }
        return chains;
    }

    int chains() {
        return allChains().size();
    }

    int chain(int i, int what) {
        if (i < 0 || i > 99 || what < 0 || what > 4) return BAD;
        List<int[]> chains = allChains();
        return i >= chains.size() ? NONE : chains.get(i)[what];
    }

    private boolean isGap(int gap) {
        return gap >= 1 && gap < sentences().size();
    }

    int over(int gap, int what) {
        if (!isGap(gap) || what < 0 || what > 1) return BAD;
        int sum = 0;
        for (int[] c : allChains()) {
            boolean over = false;
            for (int s = c[1]; s < c[2]; s++) over |= s + 1 == gap;
            if (over) sum += what == 0 ? 1 : c[4];
        }
        return sum;
    }

    // ---- blocks, partings

    private int costOf(List<List<String>> block) {
        Map<String, Integer> times = tally(block);
        int words = 0;
        int once = 0;
        for (int n : times.values()) {
            words += n;
            if (n == 1) once++;
        }
        int unlike = times.size();
        int[] byRule = {2 * unlike, unlike * unlike, words + 3 * once, Math.max(0, 4 * unlike - (words - unlike))};
        return byRule[rule] + fee;
    }

    int cost(int i, int j) {
        List<List<String>> all = sentences();
        if (i < 0 || j < 0 || i > all.size() || j > all.size()) return BAD;
        return j <= i ? NOT : costOf(all.subList(i, j));
    }

    private int totalOf(List<List<String>> all, int[] begins) {
        int total = 0;
        for (int b = 0; b < begins.length; b++) {
            int end = b + 1 < begins.length ? begins[b + 1] : all.size();
            total += costOf(all.subList(begins[b], end));
        }
        return total;
    }

    private static boolean earlier(int[] a, int[] b) {
        for (int i = a.length - 1; i >= 0; i--) {
            if (a[i] != b[i]) return a[i] < b[i];
        }
        return false;
    }

    /** Every set of seams is tried; null if there are fewer sentences than parts. */
    private int[] bestOf(List<List<String>> all, int k) {
        int n = all.size();
        if (n < k) return null;
        int[] best = null;
        int least = 0;
        for (int seams = 0; seams < 1 << (n - 1); seams++) {
            if (Integer.bitCount(seams) != k - 1) continue;
            int[] begins = new int[k];
            int at = 1;
            for (int g = 1; g < n; g++) {
                if ((seams >> (g - 1) & 1) == 1) begins[at++] = g;
            }
            int total = totalOf(all, begins);
            if (best == null || total < least || total == least && earlier(begins, best)) {
                best = begins;
                least = total;
            }
        }
        return best;
    }

    private static boolean isParts(int k) {
        return k >= 1 && k <= 8;
    }

    int best(int k) {
        if (!isParts(k)) return BAD;
        int[] begins = bestOf(sentences(), k);
        return begins == null ? NONE : totalOf(sentences(), begins);
    }

    int seam(int k, int i) {
        if (!isParts(k) || i < 0 || i > 7) return BAD;
        int[] begins = bestOf(sentences(), k);
        return begins == null || i >= k ? NONE : begins[i];
    }

    int bent() {
        int bits = 0;
        for (int k = 2; k <= 7; k++) {
            if (best(k + 1) == NONE) continue;
            if (best(k - 1) + best(k + 1) >= 2 * best(k)) bits += 1 << k;
        }
        return bits;
    }

    int drop(int k, int what) {
        if (!isParts(k) || what < 0 || what > 1) return BAD;
        int which = NONE;
        int least = NONE;
        for (int s = sentences().size() - 1; s >= 0; s--) {
            List<List<String>> left = new ArrayList<>(sentences());
            left.remove(s);
            int[] begins = bestOf(left, k);
            if (begins == null) continue;
            int total = totalOf(left, begins);
            if (which == NONE || total <= least) {
                which = s;
                least = total;
            }
        }
        return what == 0 ? which : least;
    }

    // ---- gaps

    private int alike(int gap) {
        List<List<String>> all = sentences();
        List<String> right = new ArrayList<>();
        for (int s = gap; s < all.size() && s < gap + window; s++) right.addAll(all.get(s));
        int like = 0;
        for (int s = gap - 1; s >= 0 && s >= gap - window; s--) {
            for (String w : all.get(s)) {
                if (right.remove(w)) like++;
            }
        }
        return like;
    }

    private int depth(int gap) {
        int[] alike = new int[sentences().size()];
        for (int g = 1; g < alike.length; g++) alike[g] = alike(g);
        int depth = 0;
        for (int step = -1; step <= 1; step += 2) {
            int at = gap;
            int top = alike[gap];
            while (at + step >= 1 && at + step < alike.length && alike[at + step] >= alike[at]) {
                at += step;
                top = Math.max(top, alike[at]);
            }
            depth += top - alike[gap];
        }
        return depth;
    }

    int gap(int gap, int what) {
        if (!isGap(gap) || what < 0 || what > 1) return BAD;
        return what == 0 ? alike(gap) : depth(gap);
    }

    int deep(int i) {
        if (i < 0 || i > 10) return BAD;
        List<Integer> gaps = new ArrayList<>();
        for (int g = 1; g < sentences().size(); g++) gaps.add(g);
        Map<Integer, Integer> depths = new HashMap<>();
        for (int g : gaps) depths.put(g, depth(g));
        gaps.sort((a, b) -> depths.get(a).equals(depths.get(b)) ? a - b : depths.get(b) - depths.get(a));
        return i < gaps.size() ? gaps.get(i) : NONE;
    }

    int apart(int k, int w) {
        if (!isParts(k) || w < 1 || w > 11) return BAD;
        int n = sentences().size();
        int[] begins = bestOf(sentences(), k);
        if (begins == null) return NONE;
        int often = 0;
        for (int last = w; last < n; last++) {
            int balance = 0;
            for (int g = last - w + 1; g <= last; g++) {
                int gap = g;
                if (Arrays.stream(begins).anyMatch(b -> b == gap)) balance++;
                if ((told >> g & 1) == 1) balance--;
            }
            if (balance != 0) often++;
        }
        return often;
    }

    // ---- sheets

    private long[] items(int s) {
        int n = java.lang.reflect.Array.getLength(sheets[s]);
        long[] items = new long[n];
        for (int i = 0; i < n; i++) items[i] = java.lang.reflect.Array.getLong(sheets[s], i);
        return items;
    }

    private int formOf(int s) {
        if (sheets[s] instanceof byte[]) return 0;
        return sheets[s] instanceof short[] ? 1 : 2;
    }

    private static boolean isSheet(int s) {
        return s >= 0 && s <= 3;
    }

    private static boolean isForm(int form) {
        return form >= 0 && form <= 2;
    }

    int sheet(int s, int form, int n) {
        if (!isSheet(s) || !isForm(form) || n > 60) return BAD;
        if (n < 0) return find(5);
        sheets[s] = form == 0 ? new byte[n] : form == 1 ? new short[n] : (Object) new int[n];
        return n;
    }

    int lose(int s) {
        if (!isSheet(s)) return BAD;
        if (sheets[s] == null) return find(1);
        int n = items(s).length;
        sheets[s] = null;
        return n;
    }

    private int against(int s, int form, int i) {
        if (sheets[s] == null) return 1;
        if (formOf(s) != form) return 3;
        return i < 0 || i >= items(s).length ? 2 : 0;
    }

    private void store(int s, int i, int v) {
        if (sheets[s] instanceof byte[] b) b[i] = (byte) v;
        if (sheets[s] instanceof short[] h) h[i] = (short) v;
        if (sheets[s] instanceof int[] n) n[i] = v;
    }

    int put(int s, int form, int i, int v) {
        if (!isSheet(s) || !isForm(form)) return BAD;
        int against = against(s, form, i);
        if (against != 0) return find(against);
        store(s, i, v);
        return 1;
    }

    int get(int s, int form, int i) {
        if (!isSheet(s) || !isForm(form)) return Integer.MIN_VALUE;
        int against = against(s, form, i);
        if (against == 0) return (int) items(s)[i];
        latest = against;
        return Integer.MIN_VALUE;
    }

    int copy(int s, int i, int t, int j, int n) {
        if (!isSheet(s) || !isSheet(t)) return BAD;
        if (sheets[s] == null || sheets[t] == null) return find(1);
        if (formOf(s) != formOf(t)) return find(4);
        if (i < 0 || j < 0 || n < 0) return find(2);
        if ((long) i + n > items(s).length || (long) j + n > items(t).length) return find(2);
        long[] were = items(s);
        for (int m = 0; m < n; m++) store(t, j + m, (int) were[i + m]);
        return 1;
    }

    int write(int k, int s) {
        if (!isParts(k) || !isSheet(s)) return BAD;
        if (sheets[s] == null) return find(1);
        int[] begins = bestOf(sentences(), k);
        int n = 0;
        while (begins != null && n < k && n < items(s).length) {
            store(s, n, begins[n]);
            n++;
        }
        return n;
    }

    int count(int what) {
        if (what < 0 || what > 8) return BAD;
        int words = 0;
        for (List<String> s : sentences()) words += s.size();
        return new int[] {text.length(), sentences().size(), words, stems().size(), chains(), rule, fee, told,
            latest}[what];
    }

    long digest() {
        List<Integer> all = new ArrayList<>();
        for (int what = 0; what <= 7; what++) all.add(count(what));
        for (int what = 0; what <= 2; what++) all.add(fault(what));
        for (int it = 0; it <= 11; it++) {
            all.addAll(List.of(sentence(it, 0), sentence(it, 1), sentence(it, 2), sentence(it, 3)));
            all.addAll(List.of(word(it, 0), word(it, 2), gap(it, 0), gap(it, 1), over(it, 0), over(it, 1), deep(it)));
        }
        for (int it = 0; it < stems().size(); it++) {
            all.addAll(List.of(stem(it, 0), stem(it, 1), stem(it, 2), stem(it, 3), letter(it, 0), letter(it, 3)));
        }
        for (int it = 0; it <= 9; it++) {
            all.addAll(List.of(chain(it, 0), chain(it, 1), chain(it, 2), chain(it, 3), chain(it, 4)));
        }
        int n = sentences().size();
        for (int it = 0; it < n; it++) all.addAll(List.of(cost(0, it), cost(it, n)));
        for (int k = 1; k <= 8; k++) {
            all.add(best(k));
            for (int i = 0; i <= 7; i++) all.add(seam(k, i));
            all.addAll(List.of(drop(k, 0), drop(k, 1), apart(k, 1), apart(k, 3)));
        }
        all.add(bent());
        long h = 17;
        for (int v : all) h = 31 * h + v;
        return h;
    }
}
