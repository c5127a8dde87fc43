import java.util.ArrayList;
import java.util.Arrays;
import java.util.List;

/**
 * The document once more, as literally and as slowly as can be: every SETTING is tried in the order in which BEST
 * has them. Answers come as {answer, STATUS}. Where the pages are too large for that, a table over all TOPS finds
 * the places of one side (grid).
 */
final class PlainModel {
    static final int NONE = -1;

    static final class N {
        int number, line, height, weight, side, layer, fixed = NONE, bound = NONE;
        List<Integer> answers = new ArrayList<>();
        List<Integer> cuts = new ArrayList<>();
        int tall() {
            int sum = height;
            for (int a : answers) sum += a;
            return sum;
        }
    }

    static final class Page {
        int first, end, cost;
        int[] carried;
        List<N> notes = new ArrayList<>();
        Setting best;
    }

    static final class Setting {
        int cost;
        int[] sides, tops;
        int[] cut = {0, 0};
        int[] carries = {0, 0};
    }

    final boolean grid;
    int height = 100, gap = 2, cutting = 50, shown = 15;
    boolean keep;
    List<Integer> lines = new ArrayList<>();
    List<N> notes = new ArrayList<>();
    private List<Page> made;
    private boolean fresh;

    PlainModel(boolean grid) {
        this.grid = grid;
    }

    // ---- what is told

    private static int[] fail(int status) { return new int[] {NONE, status}; }
    private static int[] ok(int answer) { return new int[] {answer, 0}; }
    private static boolean in(int x, int a, int b) { return a <= x && x <= b; }
    private boolean isLine(int l) { return in(l, 0, lines.size() - 1); }
    private boolean isNote(int n) { return in(n, 0, notes.size() - 1); }
    boolean isShown(N n) { return (shown & (1 << n.layer)) != 0; }
    boolean isSet(N n) { return keep || isShown(n); }

    int[] page(int h, int g) {
        if (!in(h, 10, 400) || !in(g, 0, 20)) return fail(2);
        height = h; gap = g; fresh = false;
        return ok(1);
    }
    int[] line(int h) {
        if (!in(h, 1, 50)) return fail(2);
        if (lines.size() == 60) return fail(3);
        lines.add(h); fresh = false;
        return ok(lines.size() - 1);
    }
    int[] change(int l, int h) {
        if (!isLine(l)) return fail(1);
        if (!in(h, 1, 50)) return fail(2);
        lines.set(l, h); fresh = false;
        return ok(1);
    }
    int[] note(int l, int h, int w, int s, int y) {
        if (!isLine(l)) return fail(1);
        if (!in(h, 1, 100) || !in(w, 1, 20) || !in(s, 0, 2) || !in(y, 0, 3)) return fail(2);
        if (notes.size() == 24) return fail(3);
        N n = new N();
        n.number = notes.size(); n.line = l; n.height = h; n.weight = w; n.side = s; n.layer = y;
        notes.add(n); fresh = false;
        return ok(n.number);
    }
    int[] answer(int k, int h) {
        if (!isNote(k)) return fail(1);
        if (!in(h, 1, 100)) return fail(2);
        N n = notes.get(k);
        if (n.answers.size() == 4) return fail(3);
        if (!n.cuts.isEmpty()) return fail(7);
        n.answers.add(h); fresh = false;
        return ok(n.answers.size());
    }
    int[] cut(int k, int at) {
        if (!isNote(k)) return fail(1);
        N n = notes.get(k);
        if (at < 1 || at >= n.height) return fail(2);
        if (n.cuts.size() == 3) return fail(3);
        if (n.cuts.contains(at)) return fail(4);
        if (!n.answers.isEmpty()) return fail(7);
        n.cuts.add(at); fresh = false;
        return ok(n.cuts.size());
    }
    int[] cutting(int c) {
        if (!in(c, 0, 1000)) return fail(2);
        cutting = c; fresh = false;
        return ok(1);
    }
    int[] bind(int k, int l) {
        if (!isNote(k) || (l != NONE && !isLine(l))) return fail(1);
        N n = notes.get(k);
        if (l != NONE && l < n.line) return fail(2);
        n.bound = l;
        return ok(1);
    }
    int[] fix(int k, int p) {
        if (!isNote(k)) return fail(1);
        if (!in(p, 0, 400)) return fail(2);
        notes.get(k).fixed = p; fresh = false;
        return ok(1);
    }
    int[] loose(int k) {
        if (!isNote(k)) return fail(1);
        if (notes.get(k).fixed == NONE) return fail(4);
        notes.get(k).fixed = NONE; fresh = false;
        return ok(1);
    }
    int[] move(int k, int l) {
        if (!isNote(k) || !isLine(l)) return fail(1);
        N n = notes.get(k);
        if (n.line == l) return fail(4);
        n.line = l; fresh = false;
        if (n.bound != NONE && l > n.bound) n.bound = NONE;
        return ok(1);
    }
    int[] show(int m) {
        if (!in(m, 0, 15)) return fail(2);
        shown = m; fresh = false;
        return ok(1);
    }
    int[] keep(boolean on) {
        keep = on; fresh = false;
        return ok(1);
    }
    int[] told(int k, int what) {
        if (!isNote(k)) return fail(1);
        if (!in(what, 0, 9)) return fail(2);
        N n = notes.get(k);
        int[] all = {n.line, n.height, n.weight, n.side, n.layer, n.tall(), n.fixed, isShown(n) ? 1 : 0, n.cuts.size(), n.bound};
        return ok(all[what]);
    }

    // ---- what is asked

    int[] pages() { return breaks() == null ? fail(6) : ok(breaks().size()); }
    private int pageNumber(int l) {
        for (int p = 0; p < made.size(); p++) if (made.get(p).first <= l && l < made.get(p).end) return p;
        throw new IllegalStateException("a line without a page");
    }
    private int lineTop(int l) {
        int sum = 0;
        for (int i = made.get(pageNumber(l)).first; i < l; i++) sum += lines.get(i);
        return sum;
    }
    int[] pageOf(int l) {
        if (!isLine(l)) return fail(1);
        return breaks() == null ? fail(6) : ok(pageNumber(l));
    }
    int[] top(int l) {
        if (!isLine(l)) return fail(1);
        return breaks() == null ? fail(6) : ok(lineTop(l));
    }
    /** what 0: side, 1: place, 2: rest */
    int[] stands(int k, int what) {
        if (!isNote(k)) return fail(1);
        if (!isShown(notes.get(k))) return fail(5);
        return breaks() == null ? fail(6) : ok(standing(notes.get(k))[what]);
    }
    private int[] standing(N n) {
        Page p = made.get(pageNumber(n.line));
        int i = p.notes.indexOf(n);
        int side = p.best.sides[i];
        boolean last = true;
        for (int j = i + 1; j < p.notes.size(); j++) if (p.best.sides[j] == side) last = false;
        int at = p.best.cut[side];
        return new int[] {side, p.best.tops[i], last && at > 0 ? n.height - at : 0};
    }
    /** {column, begin, end} or null */
    private int[] bracketOf(N asked, int page) {
        List<int[]> ahead = new ArrayList<>();
        for (N n : order()) {
            if (n.bound == NONE) continue;
            int begin = NONE, end = NONE;
            for (int l = n.line; l <= n.bound; l++) {
                if (pageNumber(l) != page) continue;
                if (begin == NONE) begin = lineTop(l);
                end = lineTop(l) + lines.get(l);
            }
            if (begin == NONE) continue;
            int side = standing(n)[0];
            int column = 0;
            boolean free = false;
            while (!free) {
                free = true;
                for (int[] b : ahead) {
                    boolean meets = Math.min(b[2], end) - Math.max(b[1], begin) > 0;
                    if (b[3] == side && b[0] == column && meets) free = false;
                }
                if (!free) column++;
            }
            int[] own = {column, begin, end, side};
            if (n == asked) return own;
            ahead.add(own);
        }
        return null;
    }
    /** what 0: column, 1: begin, 2: end */
    int[] bracket(int k, int page, int what) {
        if (!isNote(k)) return fail(1);
        if (!isShown(notes.get(k))) return fail(5);
        if (breaks() == null) return fail(6);
        if (!in(page, 0, made.size() - 1)) return fail(1);
        int[] b = bracketOf(notes.get(k), page);
        return b == null ? fail(8) : ok(b[what]);
    }
    int[] cost(int page) {
        if (breaks() == null) return fail(6);
        return in(page, 0, made.size() - 1) ? ok(made.get(page).best.cost) : fail(1);
    }
    int[] runs(int page, int side) {
        if (!in(side, 0, 1)) return fail(2);
        if (breaks() == null) return fail(6);
        if (!in(page, 0, made.size() - 1)) return fail(1);
        Page p = made.get(page);
        List<int[]> all = new ArrayList<>();
        if (p.carried[side] > 0) all.add(new int[] {0, p.carried[side]});
        for (int i = 0; i < p.notes.size(); i++)
            if (p.best.sides[i] == side) all.add(new int[] {p.best.tops[i], p.notes.get(i).tall()});
        int found = all.isEmpty() ? 0 : 1;
        for (int i = 1; i < all.size(); i++) if (all.get(i)[0] != all.get(i - 1)[0] + all.get(i - 1)[1] + gap) found++;
        return ok(found);
    }
    int[] moved(int page) {
        if (breaks() == null) return fail(6);
        if (!in(page, 0, made.size() - 1)) return fail(1);
        int found = 0;
        for (N n : made.get(page).notes) if (standing(n)[1] != lineTop(n.line)) found++;
        return ok(found);
    }

    // ---- BREAKS and BEST

    List<N> order() {
        List<N> all = new ArrayList<>();
        for (int l = 0; l < lines.size(); l++) for (N n : notes) if (n.line == l && isSet(n)) all.add(n);
        return all;
    }

    List<Page> breaks() {
        if (!fresh) { made = makeBreaks(); fresh = true; }
        return made;
    }

    private List<Page> makeBreaks() {
        List<Page> all = new ArrayList<>();
        int line = 0;
        int[] carried = {0, 0};
        while (line < lines.size() || carried[0] + carried[1] > 0) {
            boolean carries = carried[0] + carried[1] > 0;
            Page held = null;
            for (int end = lines.size(); held == null && end >= (carries ? line : line + 1); end--) held = pageWith(line, end, carried);
            if (held == null) return null;
            all.add(held);
            line = held.end;
            carried = held.best.carries;
        }
        return all;
    }

    private Page pageWith(int first, int end, int[] carried) {
        int sum = 0;
        for (int l = first; l < end; l++) sum += lines.get(l);
        if (sum > height) return null;
        Page p = new Page();
        p.first = first; p.end = end; p.carried = carried;
        int either = 0;
        for (N n : order()) if (first <= n.line && n.line < end) { p.notes.add(n); if (n.side == 2) either++; }
        if (either > 6) return null;
        p.best = best(p, either);
        return p.best == null ? null : p;
    }

    private Setting best(Page p, int either) {
        Setting best = null;
        for (int mask = 0; mask < 1 << either; mask++) {
            int[] sides = new int[p.notes.size()];
            int[] last = {NONE, NONE};
            for (int i = 0, seen = 0; i < sides.length; i++) {
                N n = p.notes.get(i);
                sides[i] = n.side < 2 ? n.side : mask >> (either - 1 - seen++) & 1;
                last[sides[i]] = i;
            }
            for (int left : cutsOf(p, last[0])) for (int right : cutsOf(p, last[1])) {
                int[] talls = new int[sides.length];
                for (int i = 0; i < talls.length; i++) talls[i] = p.notes.get(i).tall();
                Setting s = new Setting();
                s.sides = sides;
                s.cut = new int[] {left, right};
                for (int side = 0; side < 2; side++) if (s.cut[side] > 0) {
                    talls[last[side]] = s.cut[side];
                    s.carries[side] = p.notes.get(last[side]).height - s.cut[side];
                    s.cost += cutting;
                }
                Tops tops = new Tops(p, sides, talls, best == null ? Integer.MAX_VALUE : best.cost - s.cost);
                if (tops.find(grid)) {
                    s.cost += tops.least;
                    s.tops = tops.best;
                    best = s;
                }
            }
        }
        return best;
    }

    private List<Integer> cutsOf(Page p, int last) {
        List<Integer> all = new ArrayList<>();
        all.add(0);
        if (last == NONE || p.notes.get(last).fixed != NONE) return all;
        List<Integer> cuts = new ArrayList<>(p.notes.get(last).cuts);
        cuts.sort((a, b) -> b - a);
        for (int at : cuts) if (p.notes.get(last).height - at <= height) all.add(at);
        return all;
    }

    /** The first TOPS of least COST, if that is below the limit. */
    private final class Tops {
        final Page p;
        final int[] sides, talls, lineTops, tops;
        int least;
        int[] best;

        Tops(Page p, int[] sides, int[] talls, int limit) {
            this.p = p; this.sides = sides; this.talls = talls; this.least = limit;
            tops = new int[sides.length];
            lineTops = new int[sides.length];
            for (int i = 0; i < sides.length; i++)
                for (int l = p.first; l < p.notes.get(i).line; l++) lineTops[i] += lines.get(l);
        }

        boolean find(boolean byGrid) {
            if (byGrid) return findByGrid();
            int[] start = {p.carried[0] > 0 ? p.carried[0] + gap : 0, p.carried[1] > 0 ? p.carried[1] + gap : 0};
            tryFrom(0, start[0], start[1], 0);
            return best != null;
        }

        private int costOf(int i, int top) {
            N n = p.notes.get(i);
            return n.fixed != NONE ? 0 : n.weight * Math.abs(top - lineTops[i]);
        }

        private void tryFrom(int i, int left, int right, int cost) {
            if (cost >= least) return;
            if (i == sides.length) { least = cost; best = tops.clone(); return; }
            int from = sides[i] == 0 ? left : right;
            for (int top = from; top + talls[i] <= height; top++) {
                int fixed = p.notes.get(i).fixed;
                if (fixed != NONE && fixed != top) continue;
                tops[i] = top;
                int next = top + talls[i] + gap;
                tryFrom(i + 1, sides[i] == 0 ? next : left, sides[i] == 1 ? next : right, cost + costOf(i, top));
            }
        }

        private boolean findByGrid() {
            int far = 100_000_000;
            int sum = 0;
            for (int side = 0; side < 2; side++) {
                List<Integer> row = new ArrayList<>();
                for (int i = 0; i < sides.length; i++) if (sides[i] == side) row.add(i);
                int width = height + 200;
                int[][] from = new int[row.size() + 1][width + 1];
                for (int k = row.size() - 1; k >= 0; k--) {
                    int i = row.get(k);
                    Arrays.fill(from[k], far);
                    for (int top = height; top >= 0; top--) {
                        int fixed = p.notes.get(i).fixed;
                        from[k][top] = from[k][top + 1];
                        if (top + talls[i] > height || (fixed != NONE && fixed != top)) continue;
                        from[k][top] = Math.min(from[k][top], costOf(i, top) + from[k + 1][top + talls[i] + gap]);
                    }
                }
                int start = p.carried[side] > 0 ? p.carried[side] + gap : 0;
                sum += from[0][start];
                if (sum >= far || sum >= least) return false;
                for (int k = 0; k < row.size(); k++) {
                    int i = row.get(k);
                    int top = start;
                    while (from[k][top + 1] == from[k][start]) top++;
                    // the lesser TOP ahead: the first one from start on that itself reaches the least
                    for (int t = start; t <= top; t++) {
                        int fixed = p.notes.get(i).fixed;
                        if (t + talls[i] > height || (fixed != NONE && fixed != t)) continue;
                        if (costOf(i, t) + from[k + 1][t + talls[i] + gap] == from[k][start]) { top = t; break; }
                    }
                    tops[i] = top;
                    start = top + talls[i] + gap;
                }
            }
            least = sum;
            best = tops.clone();
            return true;
        }
    }
}
